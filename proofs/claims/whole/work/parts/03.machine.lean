/-! THE ABSTRACT MACHINE. Values: an int, a long (mathematical numbers), a place (a cell by its number), nothing known. The world: the number in each slot of each place; which place is what never changes once both objects are made. A block of instructions is read as what it takes that it goes well (ab_wp, ab_wb); Ev is the least such reading of a body with its jumps; Sm (later part) of methods by their number, calls inside calls at most d deep. -/
abbrev ab_V : Type := Int ⊕ (Int ⊕ Option Nat)
abbrev ab_W : Type := Nat → Int → Int
abbrev ab_I : Type := Instr × List Nat × Int
abbrev vI (x : Int) : ab_V := Sum.inl x
abbrev vL (x : Int) : ab_V := Sum.inr (Sum.inl x)
abbrev vR (p : Nat) : ab_V := Sum.inr (Sum.inr (some p))
abbrev vX : ab_V := Sum.inr (Sum.inr none)
def ab_r32 (x : Int) : Prop := -2147483648 ≤ x ∧ x < 2147483648
def ab_r64 (x : Int) : Prop := -9223372036854775808 ≤ x ∧ x < 9223372036854775808
/-- the shape of a place: an object (its class's number; of each field nothing, or the place that it names for ever), or an array (0 int, 1 long, 2 boolean, 3 references; its length; the places that it names) -/
abbrev ab_Sh : Type := (Nat × List (Option Nat)) ⊕ (Nat × Nat × List Nat)
abbrev shA (n : Nat) : ab_Sh := .inr (0, n, [])
def ab_shp : List ab_Sh := [
  .inl (4, [some 1, some 3, some 7, some 11, some 15, some 21, some 27, none, some 28, some 29, some 30, none, none]),
  .inl (2, [some 2, none]), shA 35,
  .inl (3, [some 4, some 5, some 6, none]), shA 8, shA 8, shA 8,
  .inl (3, [some 8, some 9, some 10, none]), shA 8, shA 8, shA 8,
  .inl (3, [some 12, some 13, some 14, none]), shA 8, shA 8, shA 8,
  .inl (0, [some 16, some 17, some 18, some 19, some 20, none, none, none]), shA 16, shA 16, .inr (1, 4, []), shA 192, shA 16,
  .inl (0, [some 22, some 23, some 24, some 25, some 26, none, none, none]), shA 16, shA 16, .inr (1, 4, []), shA 192, shA 16,
  shA 1024, shA 5, shA 192, .inr (3, 4, [31, 33, 35, 37]),
  .inl (1, [some 32, none, none, none]), shA 60, .inl (1, [some 34, none, none, none]), shA 60, .inl (1, [some 36, none, none, none]), shA 60, .inl (1, [some 38, none, none, none]), shA 60,
  .inl (5, [none, some 40, none, some 41, some 42, none, none, some 43, some 44, some 45, none, none, some 46, some 47, some 48, none, some 49, some 50, some 51, some 52, some 53, some 54, some 55, some 56, some 57, some 58, some 59, none, some 60, some 61, some 62, some 63, some 64, some 65, some 66, some 67, some 68, none]),
  shA 35, shA 20, shA 20, shA 8, shA 8, shA 8, shA 8, shA 8, shA 8, shA 16, shA 4, shA 4, shA 4, shA 4, shA 4, shA 16, shA 192, shA 192, shA 192, shA 2, shA 8, shA 8, shA 8, shA 480, .inr (2, 4, []), shA 4, shA 4, shA 240, shA 60]
/-- the field k of the object at a place of class ci: nothing but a number, or a place -/
def ab_fld (ci p k : Nat) : Option (Option Nat) := match ab_shp[p]? with
  | some (.inl (c, fs)) => if c = ci then fs[k]? else none
  | _ => none
def ab_ci (p : Nat) : Option Nat := match ab_shp[p]? with
  | some (.inl (c, _)) => some c
  | _ => none
/-- an array of a kind: its length -/
def ab_arr (kd p : Nat) : Option Nat := match ab_shp[p]? with
  | some (.inr (k, n, _)) => if k = kd then some n else none
  | _ => none
def ab_refs (p : Nat) : Option (List Nat) := match ab_shp[p]? with
  | some (.inr (3, _, rs)) => some rs
  | _ => none
/-- arrays that nobody writes: 100 the moments of the digest, 101 the script -/
def ab_ro (Ls p : Nat) : Option Nat := if p = 100 then some 5 else if p = 101 then some Ls else none
def ab_len (Ls p : Nat) : Option Nat := match ab_shp[p]? with
  | some (.inr (_, n, _)) => some n
  | _ => ab_ro Ls p
def ab_ild (Ls p : Nat) : Option Nat := match ab_arr 0 p with
  | some n => some n
  | none => ab_ro Ls p
-- numbers
def iW (x : Int) : Int := Int.bmod x 4294967296
def lW (x : Int) : Int := Int.bmod x 18446744073709551616
def i_div (x y : Int) : Int := (Int32.ofInt x / Int32.ofInt y).toInt
def i_rem (x y : Int) : Int := (Int32.ofInt x - Int32.ofInt x / Int32.ofInt y * Int32.ofInt y).toInt
def l_div (x y : Int) : Int := (Int64.ofInt x / Int64.ofInt y).toInt
def l_rem (x y : Int) : Int := (Int64.ofInt x - Int64.ofInt x / Int64.ofInt y * Int64.ofInt y).toInt
def i_and (x y : Int) : Int := (Int32.ofInt x &&& Int32.ofInt y).toInt
def i_or (x y : Int) : Int := (Int32.ofInt x ||| Int32.ofInt y).toInt
def i_xor (x y : Int) : Int := (Int32.ofInt x ^^^ Int32.ofInt y).toInt
def i_shl (x y : Int) : Int := (Int32.ofInt x <<< (Int32.ofInt y &&& 31)).toInt
def i_shr (x y : Int) : Int := (Int32.ofInt x >>> (Int32.ofInt y &&& 31)).toInt
def i_ushr (x y : Int) : Int := ((Int32.ofInt x).toUInt32 >>> ((Int32.ofInt y).toUInt32 &&& Int32.toUInt32 31)).toInt32.toInt
def l_and (x y : Int) : Int := (Int64.ofInt x &&& Int64.ofInt y).toInt
def l_or (x y : Int) : Int := (Int64.ofInt x ||| Int64.ofInt y).toInt
def l_shl (x y : Int) : Int := (Int64.ofInt x <<< ((Int32.ofInt y).toInt64 &&& 63)).toInt
def l_shr (x y : Int) : Int := (Int64.ofInt x >>> ((Int32.ofInt y).toInt64 &&& 63)).toInt
def l_ushr (x y : Int) : Int := ((Int64.ofInt x).toUInt64 >>> ((Int32.ofInt y).toInt64.toUInt64 &&& Int64.toUInt64 63)).toInt64.toInt
def i_2b (x : Int) : Int := (Int32.ofInt x).toInt8.toInt32.toInt
def i_2s (x : Int) : Int := (Int32.ofInt x).toInt16.toInt32.toInt
def i_max (x y : Int) : Int := if x < y then y else x
def i_min (x y : Int) : Int := if y < x then y else x
def l_cmp (x y : Int) : Int := if y < x then 1 else if x = y then 0 else -1
def ab_cH (c : ClassFile.Cond) (x y : Int) : Prop := match c with
  | .eq => x = y
  | .ne => ¬ x = y
  | .lt => x < y
  | .ge => y ≤ x
  | .gt => y < x
  | .le => x ≤ y
-- the world
def ab_up (w : ab_W) (p : Nat) (i v : Int) : ab_W := fun q j => if q = p then (if j = i then v else w q j) else w q j
def ab_cp (w : ab_W) (p q : Nat) (sp dp n : Int) : ab_W := fun r j => if r = q then (if dp ≤ j ∧ j < dp + n then w p (sp + (j - dp)) else w q j) else w r j
-- locals
def ab_kl (x : ab_V) (n : Nat) : ab_V := match n with
  | 0 => (match x with | .inr (.inl _) => vX | x => x)
  | _ + 1 => x
def ab_st : List ab_V → Nat → ab_V → List ab_V
  | [], _, _ => []
  | _ :: L, 0, v => v :: L
  | x :: L, n + 1, v => ab_kl x n :: ab_st L n v
def ab_stl (L : List ab_V) (n : Nat) (v : ab_V) : List ab_V := ab_st (ab_st L (n + 1) vX) n v
def ab_gI (L : List ab_V) (n : Nat) (f : Int → Prop) : Prop := match L[n]? with
  | some (.inl x) => f x
  | _ => False
def ab_gL (L : List ab_V) (n : Nat) (f : Int → Prop) : Prop := match L[n]? with
  | some (.inr (.inl x)) => f x
  | _ => False
def ab_gR (L : List ab_V) (n : Nat) (f : Nat → Prop) : Prop := match L[n]? with
  | some (.inr (.inr (some p))) => f p
  | _ => False
-- the stack
def ab_pI (S : List ab_V) (f : Int → List ab_V → Prop) : Prop := match S with
  | .inl x :: S => f x S
  | _ => False
def ab_pL (S : List ab_V) (f : Int → List ab_V → Prop) : Prop := match S with
  | .inr (.inl x) :: S => f x S
  | _ => False
def ab_pR (S : List ab_V) (f : Nat → List ab_V → Prop) : Prop := match S with
  | .inr (.inr (some p)) :: S => f p S
  | _ => False
def ab_pII (S : List ab_V) (f : Int → Int → List ab_V → Prop) : Prop := match S with
  | .inl y :: .inl x :: S => f x y S
  | _ => False
def ab_pLL (S : List ab_V) (f : Int → Int → List ab_V → Prop) : Prop := match S with
  | .inr (.inl y) :: .inr (.inl x) :: S => f x y S
  | _ => False
def ab_pIL (S : List ab_V) (f : Int → Int → List ab_V → Prop) : Prop := match S with
  | .inl y :: .inr (.inl x) :: S => f x y S
  | _ => False
/-- an index above an array -/
def ab_pIR (S : List ab_V) (f : Nat → Int → List ab_V → Prop) : Prop := match S with
  | .inl i :: .inr (.inr (some p)) :: S => f p i S
  | _ => False
def ab_few (S : List ab_V) : Prop := match S with
  | [] => True
  | [_] => True
  | [_, _] => True
  | [_, _, _] => True
  | [_, _, _, _] => True
  | _ => False
def ab_tk : Nat → List ab_V → List ab_V → Option (List ab_V × List ab_V)
  | 0, acc, S => some (acc, S)
  | n + 1, acc, v :: S => ab_tk n (v :: acc) S
  | _ + 1, _, [] => none
def ab_rp (r : Option ab_V) (S : List ab_V) : List ab_V := match r with
  | none => S
  | some v => v :: S
def ab_rc (as : List ab_V) (ci : Nat) : Prop := match as with
  | .inr (.inr (some p)) :: _ => ab_ci p = some ci
  | _ => False
def ab_bool (x : Int) : Prop := x = 0 ∨ x = 1
section AbWp
variable (Ls : Nat) (C : Nat → List ab_V → ab_W → (Option ab_V → ab_W → Prop) → Prop) (J : Nat → List ab_V → List ab_V → ab_W → Prop) (Rt : Option ab_V → ab_W → Prop)
def ab_call (ex : List Nat) (S : List ab_V) (w : ab_W) (virt : Bool) (K : List ab_V → ab_W → Prop) : Prop := match ex with
  | [m, n, ci] => (match ab_tk n [] S with
    | some (as, S') => (virt = true → ab_rc as ci) ∧ ab_few S' ∧ C m as w (fun r w' => K (ab_rp r S') w')
    | none => False)
  | _ => False
def ab_copy (S : List ab_V) (w : ab_W) (K : List ab_V → ab_W → Prop) : Prop := match S with
  | .inl n :: .inl dp :: .inr (.inr (some q)) :: .inl sp :: .inr (.inr (some p)) :: S' => ab_few S' ∧ C 999 [] w (fun _ _ => True) ∧ (∃ kd a b, (kd = 0 ∨ kd = 1) ∧ ab_arr kd p = some a ∧ ab_arr kd q = some b ∧ 0 ≤ sp ∧ 0 ≤ dp ∧ 0 ≤ n ∧ sp + n ≤ a ∧ dp + n ≤ b) ∧ K S' (ab_cp w p q sp dp n)
  | _ => False
def ab_mm (f : Int → Int → Int) (S : List ab_V) (w : ab_W) (K : List ab_V → ab_W → Prop) : Prop := match S with
  | .inl y :: .inl x :: S' => ab_few S' ∧ C 999 [] w (fun _ _ => True) ∧ K (vI (f x y) :: S') w
  | _ => False
def ab_sw (lo : Int) (bs : List Nat) (d : Nat) (x : Int) : Nat := if lo ≤ x then (bs[(x - lo).toNat]?).getD d else d
def ab_lsw : List (Int × Int) → List Nat → Nat → Int → Nat
  | (a, _) :: ps, b :: bs, d, x => if x = a then b else ab_lsw ps bs d x
  | _, _, d, _ => d
def ab_wp (K : List ab_V → List ab_V → ab_W → Prop) (op : Instr) (ex : List Nat) (z : Int) (L S : List ab_V) (w : ab_W) : Prop :=
  match op with
  | .iconst n => K L (vI n :: S) w
  | .bipush n => K L (vI n :: S) w
  | .sipush n => K L (vI n :: S) w
  | .lconst n => K L (vL (n.val : Int) :: S) w
  | .ldc _ => K L (vI z :: S) w
  | .ldc_w _ => K L (vI z :: S) w
  | .ldc2_w _ => K L (vL z :: S) w
  | .iload n => ab_gI L n fun x => K L (vI x :: S) w
  | .iload_n n => ab_gI L n.val fun x => K L (vI x :: S) w
  | .lload n => ab_gL L n fun x => K L (vL x :: S) w
  | .lload_n n => ab_gL L n.val fun x => K L (vL x :: S) w
  | .aload n => ab_gR L n fun p => K L (vR p :: S) w
  | .aload_n n => ab_gR L n.val fun p => K L (vR p :: S) w
  | .istore n => ab_pI S fun x S => K (ab_st L n (vI x)) S w
  | .istore_n n => ab_pI S fun x S => K (ab_st L n.val (vI x)) S w
  | .lstore n => ab_pL S fun x S => K (ab_stl L n (vL x)) S w
  | .lstore_n n => ab_pL S fun x S => K (ab_stl L n.val (vL x)) S w
  | .astore n => ab_pR S fun p S => K (ab_st L n (vR p)) S w
  | .astore_n n => ab_pR S fun p S => K (ab_st L n.val (vR p)) S w
  | .iinc n c => ab_gI L n fun x => K (ab_st L n (vI (iW (x + c)))) S w
  | .iadd => ab_pII S fun x y S => K L (vI (iW (x + y)) :: S) w
  | .isub => ab_pII S fun x y S => K L (vI (iW (x - y)) :: S) w
  | .imul => ab_pII S fun x y S => K L (vI (iW (x * y)) :: S) w
  | .idiv => ab_pII S fun x y S => y ≠ 0 ∧ K L (vI (i_div x y) :: S) w
  | .irem => ab_pII S fun x y S => y ≠ 0 ∧ K L (vI (i_rem x y) :: S) w
  | .iand => ab_pII S fun x y S => K L (vI (i_and x y) :: S) w
  | .ior => ab_pII S fun x y S => K L (vI (i_or x y) :: S) w
  | .ixor => ab_pII S fun x y S => K L (vI (i_xor x y) :: S) w
  | .ishl => ab_pII S fun x y S => K L (vI (i_shl x y) :: S) w
  | .ishr => ab_pII S fun x y S => K L (vI (i_shr x y) :: S) w
  | .iushr => ab_pII S fun x y S => K L (vI (i_ushr x y) :: S) w
  | .ladd => ab_pLL S fun x y S => K L (vL (lW (x + y)) :: S) w
  | .lsub => ab_pLL S fun x y S => K L (vL (lW (x - y)) :: S) w
  | .lmul => ab_pLL S fun x y S => K L (vL (lW (x * y)) :: S) w
  | .ldiv => ab_pLL S fun x y S => y ≠ 0 ∧ K L (vL (l_div x y) :: S) w
  | .lrem => ab_pLL S fun x y S => y ≠ 0 ∧ K L (vL (l_rem x y) :: S) w
  | .land => ab_pLL S fun x y S => K L (vL (l_and x y) :: S) w
  | .lor => ab_pLL S fun x y S => K L (vL (l_or x y) :: S) w
  | .lshl => ab_pIL S fun x y S => K L (vL (l_shl x y) :: S) w
  | .lshr => ab_pIL S fun x y S => K L (vL (l_shr x y) :: S) w
  | .lushr => ab_pIL S fun x y S => K L (vL (l_ushr x y) :: S) w
  | .i2l => ab_pI S fun x S => K L (vL x :: S) w
  | .l2i => ab_pL S fun x S => K L (vI (iW x) :: S) w
  | .i2b => ab_pI S fun x S => K L (vI (i_2b x) :: S) w
  | .i2s => ab_pI S fun x S => K L (vI (i_2s x) :: S) w
  | .lcmp => ab_pLL S fun x y S => K L (vI (l_cmp x y) :: S) w
  | .dup => (match S with | .inl x :: S => K L (vI x :: vI x :: S) w | .inr (.inr (some p)) :: S => K L (vR p :: vR p :: S) w | _ => False)
  | .dup2 => ab_pIR S fun p i S => K L (vI i :: vR p :: vI i :: vR p :: S) w
  | .ifCond c _ => ab_pI S fun x S => (ab_cH c x 0 → J (ex.headD 0) L S w) ∧ (¬ ab_cH c x 0 → K L S w)
  | .if_icmp c _ => ab_pII S fun x y S => (ab_cH c x y → J (ex.headD 0) L S w) ∧ (¬ ab_cH c x y → K L S w)
  | .goto _ => J (ex.headD 0) L S w
  | .tableswitch _ lo _ _ => ab_pI S fun x S => J (ab_sw lo ex.tail (ex.headD 0) x) L S w
  | .lookupswitch _ ps => ab_pI S fun x S => J (ab_lsw ps.toList ex.tail (ex.headD 0) x) L S w
  | .ireturn => (match S with | [.inl x] => (ex = [1] → ab_bool x) ∧ Rt (some (vI x)) w | _ => False)
  | .lreturn => (match S with | [.inr (.inl x)] => Rt (some (vL x)) w | _ => False)
  | .return_ => (match S with | [] => Rt none w | _ => False)
  | .getfield _ => ab_pR S fun p S => (match ab_fld (ex.headD 0) p (ex.tail.headD 0) with
    | some none => K L (vI (w p ((ex.tail.headD 0 : Nat) : Int)) :: S) w
    | some (some q) => K L (vR q :: S) w
    | none => False)
  | .putfield _ => (match S with
    | .inl x :: .inr (.inr (some p)) :: S => ab_fld (ex.headD 0) p (ex.tail.headD 0) = some none ∧ (ex.tail.tail = [1] → ab_bool x) ∧ K L S (ab_up w p ((ex.tail.headD 0 : Nat) : Int) x)
    | _ => False)
  | .getstatic _ => K L (vR 100 :: S) w
  | .iaload => ab_pIR S fun p i S => (match ab_ild Ls p with
    | some n => (0 ≤ i ∧ i < (n : Int)) ∧ K L (vI (w p i) :: S) w
    | none => False)
  | .laload => ab_pIR S fun p i S => (match ab_arr 1 p with
    | some n => (0 ≤ i ∧ i < (n : Int)) ∧ K L (vL (w p i) :: S) w
    | none => False)
  | .baload => ab_pIR S fun p i S => (match ab_arr 2 p with
    | some n => (0 ≤ i ∧ i < (n : Int)) ∧ K L (vI (w p i) :: S) w
    | none => False)
  | .aaload => ab_pIR S fun p i S => (match ab_refs p with
    | some rs => (match rs[i.toNat]? with | some q => 0 ≤ i ∧ K L (vR q :: S) w | none => False)
    | none => False)
  | .iastore => (match S with
    | .inl x :: .inl i :: .inr (.inr (some p)) :: S => (match ab_arr 0 p with
      | some n => (0 ≤ i ∧ i < (n : Int)) ∧ K L S (ab_up w p i x)
      | none => False)
    | _ => False)
  | .lastore => (match S with
    | .inr (.inl x) :: .inl i :: .inr (.inr (some p)) :: S => (match ab_arr 1 p with
      | some n => (0 ≤ i ∧ i < (n : Int)) ∧ K L S (ab_up w p i x)
      | none => False)
    | _ => False)
  | .bastore => (match S with
    | .inl x :: .inl i :: .inr (.inr (some p)) :: S => (match ab_arr 2 p with
      | some n => (0 ≤ i ∧ i < (n : Int)) ∧ ab_bool x ∧ K L S (ab_up w p i x)
      | none => False)
    | _ => False)
  | .arraylength => ab_pR S fun p S => (match ab_len Ls p with
    | some n => K L (vI (n : Int) :: S) w
    | none => False)
  | .invokevirtual _ => ab_call C ex S w true (fun S w => K L S w)
  | .invokestatic _ => if ex = [] then ab_copy C S w (fun S w => K L S w) else if ex = [1] then ab_mm C i_max S w (fun S w => K L S w) else if ex = [2] then ab_mm C i_min S w (fun S w => K L S w) else ab_call C ex S w false (fun S w => K L S w)
  | _ => False
/-- a block: its instructions; behind the last one the next block -/
def ab_wb (nx : Nat) : List ab_I → List ab_V → List ab_V → ab_W → Prop
  | [], L, S, w => J nx L S w
  | i :: is, L, S, w => ab_wp Ls C J Rt (ab_wb nx is) i.1 i.2.1 i.2.2 L S w
def ab_at (bl : List (List ab_I)) (b : Nat) (L S : List ab_V) (w : ab_W) : Prop := match bl[b]? with
  | some is => ab_wb Ls C J Rt (b + 1) is L S w
  | none => False
end AbWp
