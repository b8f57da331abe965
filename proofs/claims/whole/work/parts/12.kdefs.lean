/-! THE LOGICAL MACHINE. A cell is named by its number in the order of making, counted from the law's start (.ref i);
what stood there before (the script, static rows, one String) is .retAddr k. -/
/-- what an array holds: ints (also bytes, booleans), longs, references -/
abbrev KA : Type := List Int32 ⊕ (List Int64 ⊕ List (Option Nat))
/-- a cell: an object (its class, its fields) or an array (its kind, its contents) -/
abbrev KC : Type := (Nat × List Value) ⊕ (Nat × KA)
abbrev KW : Type := List KC
/-- local variables by their places -/
abbrev KL : Type := List (Option Value)
/-- kinds of arrays -/
def kty (t : Nat) : FieldType := match t with
  | 0 => .int
  | 1 => .long
  | 2 => .byte
  | 3 => .boolean
  | 4 => .object "SwapAssize$State"
  | _ => .object "SwapAssize$Seen"
def kat (t : ArrayType) : Option Nat := match t with
  | .int => some 0
  | .long => some 1
  | .byte => some 2
  | .boolean => some 3
  | _ => none
def kgf (w : KW) (a ci k : Nat) : Option Value := match w[a]? with
  | some (.inl (c, fs)) => bif Nat.beq c ci then fs[k]? else none
  | _ => none
def kgI (w : KW) (a ci k : Nat) : Option Int32 := match kgf w a ci k with
  | some (.int x) => some x
  | _ => none
def kgJ (w : KW) (a ci k : Nat) : Option Int64 := match kgf w a ci k with
  | some (.long x) => some x
  | _ => none
def kgR (w : KW) (a ci k : Nat) : Option Nat := match kgf w a ci k with
  | some (.ref x) => some x
  | _ => none
def kpf (w : KW) (a ci k : Nat) (v : Value) : Option KW := match w[a]? with
  | some (.inl (c, fs)) => bif Nat.beq c ci && Nat.blt k fs.length then some (w.set a (.inl (c, fs.set k v))) else none
  | _ => none
/-- an int of an array of kind t -/
def kaI (w : KW) (a t : Nat) (i : Int32) : Option Int32 := match w[a]? with
  | some (.inr (t', .inl xs)) => bif Nat.beq t' t then (if i < 0 then none else xs[i.toNatClampNeg]?) else none
  | _ => none
/-- of a byte's or a boolean's -/
def kaB (w : KW) (a : Nat) (i : Int32) : Option Int32 := match w[a]? with
  | some (.inr (t', .inl xs)) => bif Nat.beq t' 2 || Nat.beq t' 3 then (if i < 0 then none else xs[i.toNatClampNeg]?) else none
  | _ => none
def kaJ (w : KW) (a : Nat) (i : Int32) : Option Int64 := match w[a]? with
  | some (.inr (t', .inr (.inl xs))) => bif Nat.beq t' 1 then (if i < 0 then none else xs[i.toNatClampNeg]?) else none
  | _ => none
def kaR (w : KW) (a : Nat) (i : Int32) : Option Nat := match w[a]? with
  | some (.inr (t', .inr (.inr xs))) => bif Nat.beq t' 4 || Nat.beq t' 5 then (if i < 0 then none else (xs[i.toNatClampNeg]?).join) else none
  | _ => none
def ksI (w : KW) (a t : Nat) (i x : Int32) : Option KW := match w[a]? with
  | some (.inr (t', .inl xs)) => bif Nat.beq t' t then (if i < 0 ∨ xs.length ≤ i.toNatClampNeg then none else some (w.set a (.inr (t', .inl (xs.set i.toNatClampNeg x))))) else none
  | _ => none
def ksB (w : KW) (a : Nat) (i x : Int32) : Option KW := match w[a]? with
  | some (.inr (t', .inl xs)) => bif Nat.beq t' 2 || Nat.beq t' 3 then (if i < 0 ∨ xs.length ≤ i.toNatClampNeg then none else some (w.set a (.inr (t', .inl (xs.set i.toNatClampNeg (vp_nar (kty t') x)))))) else none
  | _ => none
def ksJ (w : KW) (a : Nat) (i : Int32) (x : Int64) : Option KW := match w[a]? with
  | some (.inr (t', .inr (.inl xs))) => bif Nat.beq t' 1 then (if i < 0 ∨ xs.length ≤ i.toNatClampNeg then none else some (w.set a (.inr (t', .inr (.inl (xs.set i.toNatClampNeg x)))))) else none
  | _ => none
/-- a reference into an array: the object must be of the array's class -/
def ksR (w : KW) (a : Nat) (i : Int32) (v : Nat) : Option KW := match w[a]?, w[v]? with
  | some (.inr (t', .inr (.inr xs))), some (.inl (c, _)) => bif (Nat.beq t' 4 && Nat.beq c 9) || (Nat.beq t' 5 && Nat.beq c 7) then (if i < 0 ∨ xs.length ≤ i.toNatClampNeg then none else some (w.set a (.inr (t', .inr (.inr (xs.set i.toNatClampNeg (some v))))))) else none
  | _, _ => none
def kalen (w : KW) (a : Nat) : Option Nat := match w[a]? with
  | some (.inr (t, .inl xs)) => bif Nat.blt t 6 then some xs.length else none
  | some (.inr (t, .inr (.inl xs))) => bif Nat.blt t 6 then some xs.length else none
  | some (.inr (t, .inr (.inr xs))) => bif Nat.blt t 6 then some xs.length else none
  | _ => none
/-- System.arraycopy of whole int arrays from 0 to 0 -/
def kcopy (w : KW) (a b : Nat) (n : Int32) : Option KW := match w[a]?, w[b]? with
  | some (.inr (t, .inl xs)), some (.inr (u, .inl ys)) => bif Nat.beq t 0 && Nat.beq u 0 then (if n < 0 ∨ xs.length < n.toNatClampNeg ∨ ys.length < n.toNatClampNeg then none else some (w.set b (.inr (u, .inl (xs.take n.toNatClampNeg ++ ys.drop n.toNatClampNeg))))) else none
  | _, _ => none
/-- what a new array holds -/
def kanew (t n : Nat) : KC := match t with
  | 1 => .inr (1, .inr (.inl (List.replicate n 0)))
  | 4 => .inr (4, .inr (.inr (List.replicate n none)))
  | 5 => .inr (5, .inr (.inr (List.replicate n none)))
  | t => .inr (t, .inl (List.replicate n 0))
def kislong (x : Option Value) : Bool := match x with
  | some v => Nat.beq v.category 2
  | none => false
/-- some local variables forgotten -/
def kclr1 : KL → Nat → KL
  | [], _ => []
  | _ :: L, 0 => none :: L
  | x :: L, i + 1 => x :: kclr1 L i
def kclr (ps : List Nat) (L : KL) : KL := match ps with
  | [] => L
  | i :: ps => kclr ps (kclr1 L i)
/-- a store of one word -/
def kst1 : KL → Nat → Value → Option KL
  | [], _, _ => none
  | _ :: L, 0, v => some (some v :: L)
  | x :: L, 1, v => (kst1 L 0 v).map fun L' => (bif kislong x then none else x) :: L'
  | x :: L, i + 2, v => (kst1 L (i + 1) v).map fun L' => x :: L'
/-- of two -/
def kst2 : KL → Nat → Value → Option KL
  | [], _, _ => none
  | [_], _, _ => none
  | _ :: _ :: L, 0, v => some (some v :: none :: L)
  | x :: L, 1, v => (kst2 L 0 v).map fun L' => (bif kislong x then none else x) :: L'
  | x :: L, i + 2, v => (kst2 L (i + 1) v).map fun L' => x :: L'
def kld (L : KL) (i : Nat) : Option Value := match L[i]? with
  | some (some v) => some v
  | _ => none
/-- the local variables at a method's entry -/
def kent : List Value → Nat → KL
  | [], n => List.replicate n none
  | .long x :: vs, n => some (.long x) :: none :: kent vs (n - 2)
  | .double x :: vs, n => some (.double x) :: none :: kent vs (n - 2)
  | v :: vs, n => some v :: kent vs (n - 1)
def kpush (r : Option Value) (st : List Value) : List Value := match r with
  | some v => v :: st
  | none => st
def kcat (st : List Value) : Nat := match st with
  | [] => 0
  | v :: st => v.category + kcat st
/-- a switch: the offset -/
def ksw (x : Int32) (lo : Int) : List Int → Int → Int
  | [], d => d
  | o :: os, d => if x = Int32.ofInt lo then o else ksw x (lo + 1) os d
/-- the static rows: WORDS, STRANGE_DEALS, the bytes of the one String, the script -/
def kwords : List Int64 := [0x6a75646765, 0x6c65616e73, 0x63617365, 0x6775696c74, 0x6f6e, 0x636861697273, 0x6465616c73, 0x646179, 0x706c656164, 0x6c65616e, 0x6368616e6765, 0x706c61696e, 0x737465726e, 0x6d696c64, 0x73616d65, 0x6e6f74, 0x616e64, 0x6f72, 0x6e7468, 0x6d616e79, 0x746f646179, 0x6772696566]
def kstr : List Int32 := [40, 41, 60, 61, 43, 45, 42, 59]
def ksta (xs : List Int32) (k : Nat) : Option (Nat × KA) := match k with
  | 0 => some (1, .inr (.inl kwords))
  | 1 => some (0, .inl [1, 0, 1, 2, 9, 44, 265, 1854])
  | 3 => some (2, .inl kstr)
  | 9 => some (0, .inl xs)
  | _ => none
def ktI (xs : List Int32) (k : Nat) (i : Int32) : Option Int32 := match ksta xs k with
  | some (0, .inl ys) => if i < 0 then none else ys[i.toNatClampNeg]?
  | _ => none
def ktB (xs : List Int32) (k : Nat) (i : Int32) : Option Int32 := match ksta xs k with
  | some (2, .inl ys) => if i < 0 then none else ys[i.toNatClampNeg]?
  | _ => none
def ktJ (xs : List Int32) (k : Nat) (i : Int32) : Option Int64 := match ksta xs k with
  | some (1, .inr (.inl ys)) => if i < 0 then none else ys[i.toNatClampNeg]?
  | _ => none
def ktlen (xs : List Int32) (k : Nat) : Option Nat := match ksta xs k with
  | some (_, .inl ys) => some ys.length
  | some (_, .inr (.inl ys)) => some ys.length
  | _ => none
def kisref (v : Value) : Bool := match v with
  | .ref _ => true
  | .retAddr _ => true
  | _ => false
/-- a method's arguments off the stack -/
def kargs : Nat → List Value → List Value → Option (List Value × List Value)
  | 0, st, acc => some (acc, st)
  | n + 1, v :: st, acc => kargs n st (v :: acc)
  | _ + 1, [], _ => none
/-- is it an object of this class -/
def krecv (w : KW) (v : Value) (c : Nat) : Bool := match v with
  | .ref a => (match w[a]? with
    | some (.inl (ci, _)) => Nat.beq ci c
    | _ => false)
  | .retAddr 2 => Nat.beq c 15
  | _ => false
def kjmp (pc : Nat) (off : Int) (k : Nat → Prop) : Prop := match (pc : Int) + off with
  | .ofNat t => k t
  | .negSucc _ => False
def kswC (x : Int32) (lo : Int) : List Int → Int → (Int → Prop) → Prop
  | [], d, k => k d
  | o :: os, d, k => if x = Int32.ofInt lo then k o else kswC x (lo + 1) os d k
def kif (c : ClassFile.Cond) (x y : Int32) (t f : Prop) : Prop := match c with
  | .eq => if x = y then t else f
  | .ne => if x = y then f else t
  | .lt => if x < y then t else f
  | .ge => if x < y then f else t
  | .gt => if y < x then t else f
  | .le => if y < x then f else t
def kO {α : Type} (o : Option α) (k : α → Prop) : Prop := match o with
  | some x => k x
  | none => False
def kushr (x y : Int32) : Int32 := (x.toUInt32 >>> (y.toUInt32 &&& Int32.toUInt32 31)).toInt32
/-- ONE INSTRUCTION of method m (d: how many calls deep may still be gone): what must hold so that 'next', 'ret' or 'call' holds behind it -/
def kstep (xs : List Int32) (m d : Nat) (i : Instr) (len pc : Nat) (L : KL) (st : List Value) (w : KW) (next : Nat → KL → List Value → KW → Prop) (ret : Option Value → Prop) (call : Nat → List Value → List Value → Prop) : Prop := match i with
  | .aload_n k => kO (kld L k.val) fun v => bif kisref v then next (pc + len) L (v :: st) w else False
  | .aload k => kO (kld L k) fun v => bif kisref v then next (pc + len) L (v :: st) w else False
  | .iload_n k => (match kld L k.val with
    | some (.int x) => next (pc + len) L (.int x :: st) w
    | _ => False)
  | .iload k => (match kld L k with
    | some (.int x) => next (pc + len) L (.int x :: st) w
    | _ => False)
  | .lload_n k => (match kld L k.val with
    | some (.long x) => next (pc + len) L (.long x :: st) w
    | _ => False)
  | .lload k => (match kld L k with
    | some (.long x) => next (pc + len) L (.long x :: st) w
    | _ => False)
  | .istore_n k => (match st with
    | .int x :: st => kO (kst1 L k.val (.int x)) fun L => next (pc + len) L st w
    | _ => False)
  | .istore k => (match st with
    | .int x :: st => kO (kst1 L k (.int x)) fun L => next (pc + len) L st w
    | _ => False)
  | .lstore_n k => (match st with
    | .long x :: st => kO (kst2 L k.val (.long x)) fun L => next (pc + len) L st w
    | _ => False)
  | .lstore k => (match st with
    | .long x :: st => kO (kst2 L k (.long x)) fun L => next (pc + len) L st w
    | _ => False)
  | .astore_n k => (match st with
    | .ref x :: st => kO (kst1 L k.val (.ref x)) fun L => next (pc + len) L st w
    | _ => False)
  | .astore k => (match st with
    | .ref x :: st => kO (kst1 L k (.ref x)) fun L => next (pc + len) L st w
    | _ => False)
  | .iinc k n => (match kld L k with
    | some (.int x) => kO (kst1 L k (.int (x + Int32.ofInt n))) fun L => next (pc + len) L st w
    | _ => False)
  | .iconst n => next (pc + len) L (.int (Int32.ofInt n) :: st) w
  | .bipush n => next (pc + len) L (.int (Int8.ofInt n).toInt32 :: st) w
  | .sipush n => next (pc + len) L (.int (Int16.ofInt n).toInt32 :: st) w
  | .lconst n => next (pc + len) L (.long (Int64.ofNat n.val) :: st) w
  | .ldc k => bif kcs (kown m) k then next (pc + len) L (.retAddr 2 :: st) w else kO (kcn (kown m) k) fun x => next (pc + len) L (.int x :: st) w
  | .ldc_w k => kO (kcn (kown m) k) fun x => next (pc + len) L (.int x :: st) w
  | .ldc2_w k => kO (kcj (kown m) k) fun x => next (pc + len) L (.long x :: st) w
  | .dup => (match st with
    | v :: st => bif Nat.beq v.category 1 then next (pc + len) L (v :: v :: st) w else False
    | _ => False)
  | .dup2 => (match st with
    | v :: u :: st => bif Nat.beq v.category 1 && Nat.beq u.category 1 then next (pc + len) L (v :: u :: v :: u :: st) w else False
    | _ => False)
  | .pop => (match st with
    | v :: st => bif Nat.beq v.category 1 then next (pc + len) L st w else False
    | _ => False)
  | .iadd => (match st with
    | .int y :: .int x :: st => next (pc + len) L (.int (x + y) :: st) w
    | _ => False)
  | .isub => (match st with
    | .int y :: .int x :: st => next (pc + len) L (.int (x - y) :: st) w
    | _ => False)
  | .imul => (match st with
    | .int y :: .int x :: st => next (pc + len) L (.int (x * y) :: st) w
    | _ => False)
  | .idiv => (match st with
    | .int y :: .int x :: st => if y = 0 then False else next (pc + len) L (.int (x / y) :: st) w
    | _ => False)
  | .irem => (match st with
    | .int y :: .int x :: st => if y = 0 then False else next (pc + len) L (.int (x - x / y * y) :: st) w
    | _ => False)
  | .iand => (match st with
    | .int y :: .int x :: st => next (pc + len) L (.int (x &&& y) :: st) w
    | _ => False)
  | .ior => (match st with
    | .int y :: .int x :: st => next (pc + len) L (.int (x ||| y) :: st) w
    | _ => False)
  | .ixor => (match st with
    | .int y :: .int x :: st => next (pc + len) L (.int (x ^^^ y) :: st) w
    | _ => False)
  | .ishl => (match st with
    | .int y :: .int x :: st => next (pc + len) L (.int (x <<< (y &&& 31)) :: st) w
    | _ => False)
  | .ishr => (match st with
    | .int y :: .int x :: st => next (pc + len) L (.int (x >>> (y &&& 31)) :: st) w
    | _ => False)
  | .iushr => (match st with
    | .int y :: .int x :: st => next (pc + len) L (.int (kushr x y) :: st) w
    | _ => False)
  | .ineg => (match st with
    | .int x :: st => next (pc + len) L (.int (-x) :: st) w
    | _ => False)
  | .i2l => (match st with
    | .int x :: st => next (pc + len) L (.long x.toInt64 :: st) w
    | _ => False)
  | .l2i => (match st with
    | .long x :: st => next (pc + len) L (.int x.toInt32 :: st) w
    | _ => False)
  | .i2b => (match st with
    | .int x :: st => next (pc + len) L (.int x.toInt8.toInt32 :: st) w
    | _ => False)
  | .i2c => (match st with
    | .int x :: st => next (pc + len) L (.int (x.toUInt32 % 65536).toInt32 :: st) w
    | _ => False)
  | .ladd => (match st with
    | .long y :: .long x :: st => next (pc + len) L (.long (x + y) :: st) w
    | _ => False)
  | .lsub => (match st with
    | .long y :: .long x :: st => next (pc + len) L (.long (x - y) :: st) w
    | _ => False)
  | .lmul => (match st with
    | .long y :: .long x :: st => next (pc + len) L (.long (x * y) :: st) w
    | _ => False)
  | .ldiv => (match st with
    | .long y :: .long x :: st => if y = 0 then False else next (pc + len) L (.long (x / y) :: st) w
    | _ => False)
  | .lrem => (match st with
    | .long y :: .long x :: st => if y = 0 then False else next (pc + len) L (.long (x - x / y * y) :: st) w
    | _ => False)
  | .land => (match st with
    | .long y :: .long x :: st => next (pc + len) L (.long (x &&& y) :: st) w
    | _ => False)
  | .lor => (match st with
    | .long y :: .long x :: st => next (pc + len) L (.long (x ||| y) :: st) w
    | _ => False)
  | .lshl => (match st with
    | .int y :: .long x :: st => next (pc + len) L (.long (x <<< (y.toInt64 &&& 63)) :: st) w
    | _ => False)
  | .lshr => (match st with
    | .int y :: .long x :: st => next (pc + len) L (.long (x >>> (y.toInt64 &&& 63)) :: st) w
    | _ => False)
  | .lcmp => (match st with
    | .long y :: .long x :: st => next (pc + len) L (.int (lg_cmp x y) :: st) w
    | _ => False)
  | .goto off => kjmp pc off fun t => next t L st w
  | .if_icmp c off => (match st with
    | .int y :: .int x :: st => kif c x y (kjmp pc off fun t => next t L st w) (next (pc + len) L st w)
    | _ => False)
  | .ifCond c off => (match st with
    | .int x :: st => kif c x 0 (kjmp pc off fun t => next t L st w) (next (pc + len) L st w)
    | _ => False)
  | .tableswitch dflt lo hi offs => (match st with
    | .int x :: st => bif decide (hi + 1 = lo + offs.size) && decide (-2147483648 ≤ lo) && decide (hi ≤ 2147483647) then kswC x lo offs.toList dflt fun off => kjmp pc off fun t => next t L st w else False
    | _ => False)
  | .getfield k => (match st with
    | .ref a :: st => kO (kfl (kown m) k) fun f => (match f.2.2 with
      | 1 => kO (kgJ w a f.1 f.2.1) fun x => next (pc + len) L (.long x :: st) w
      | 2 => kO (kgR w a f.1 f.2.1) fun x => next (pc + len) L (.ref x :: st) w
      | _ => kO (kgI w a f.1 f.2.1) fun x => next (pc + len) L (.int x :: st) w)
    | .retAddr 2 :: st => kO (kso (kown m) k) fun v => next (pc + len) L (v :: st) w
    | _ => False)
  | .getstatic k => kO (kgs (kown m) k) fun v => next (pc + len) L (v :: st) w
  | .putfield k => (match st with
    | v :: .ref a :: st => kO (kfl (kown m) k) fun f => bif !kfin f.1 f.2.1 || (kini m && Nat.beq (kown m) f.1) then (match f.2.2, v with
      | 0, .int x => kO (kpf w a f.1 f.2.1 (.int x)) fun w => next (pc + len) L st w
      | 1, .long x => kO (kpf w a f.1 f.2.1 (.long x)) fun w => next (pc + len) L st w
      | 2, .ref x => kO (kpf w a f.1 f.2.1 (.ref x)) fun w => next (pc + len) L st w
      | 3, .int x => if x &&& 1 = x then kO (kpf w a f.1 f.2.1 (.int x)) fun w => next (pc + len) L st w else False
      | _, _ => False) else False
    | _ => False)
  | .iaload => (match st with
    | .int i :: .ref a :: st => kO (kaI w a 0 i) fun x => next (pc + len) L (.int x :: st) w
    | .int i :: .retAddr k :: st => kO (ktI xs k i) fun x => next (pc + len) L (.int x :: st) w
    | _ => False)
  | .baload => (match st with
    | .int i :: .ref a :: st => kO (kaB w a i) fun x => next (pc + len) L (.int x :: st) w
    | .int i :: .retAddr k :: st => kO (ktB xs k i) fun x => next (pc + len) L (.int x :: st) w
    | _ => False)
  | .laload => (match st with
    | .int i :: .ref a :: st => kO (kaJ w a i) fun x => next (pc + len) L (.long x :: st) w
    | .int i :: .retAddr k :: st => kO (ktJ xs k i) fun x => next (pc + len) L (.long x :: st) w
    | _ => False)
  | .aaload => (match st with
    | .int i :: .ref a :: st => kO (kaR w a i) fun x => next (pc + len) L (.ref x :: st) w
    | _ => False)
  | .iastore => (match st with
    | .int x :: .int i :: .ref a :: st => kO (ksI w a 0 i x) fun w => next (pc + len) L st w
    | _ => False)
  | .bastore => (match st with
    | .int x :: .int i :: .ref a :: st => kO (ksB w a i x) fun w => next (pc + len) L st w
    | _ => False)
  | .lastore => (match st with
    | .long x :: .int i :: .ref a :: st => kO (ksJ w a i x) fun w => next (pc + len) L st w
    | _ => False)
  | .aastore => (match st with
    | .ref x :: .int i :: .ref a :: st => kO (ksR w a i x) fun w => next (pc + len) L st w
    | _ => False)
  | .arraylength => (match st with
    | .ref a :: st => kO (kalen w a) fun n => next (pc + len) L (.int (Int32.ofNat n) :: st) w
    | .retAddr k :: st => kO (ktlen xs k) fun n => next (pc + len) L (.int (Int32.ofNat n) :: st) w
    | _ => False)
  | .new k => kO (kclk (kown m) k) fun c => next (pc + len) L (.ref w.length :: st) (w ++ [.inl (c, knew c)])
  | .newarray t => (match st with
    | .int n :: st => kO (kat t) fun t => if n < 0 ∨ 100000 < n.toNatClampNeg then False else next (pc + len) L (.ref w.length :: st) (w ++ [kanew t n.toNatClampNeg])
    | _ => False)
  | .anewarray k => (match st with
    | .int n :: st => kO (kan (kown m) k) fun t => if n < 0 ∨ 100000 < n.toNatClampNeg then False else next (pc + len) L (.ref w.length :: st) (w ++ [kanew t n.toNatClampNeg])
    | _ => False)
  | .invokestatic k => kO (kml (kown m) k) fun f => (match f.1 with
    | 0 => kO (kargs f.2.2 st []) fun a => bif Nat.ble (kcat a.2) 8 && Nat.ble (kcat a.1) (kmax f.2.1) then call f.2.1 a.1 a.2 else False
    | 4 => kO (kargs f.2.2 st []) fun a => bif Nat.ble (kcat a.2) 8 && Nat.ble (kcat a.1) (kmax f.2.1) then call f.2.1 a.1 a.2 else False
    | 6 => (match d, st with
      | _ + 1, .int n :: .int j :: .ref b :: .int i :: .ref a :: st => bif Nat.ble (kcat st) 8 then (if i = 0 ∧ j = 0 then kO (kcopy w a b n) fun w => next (pc + len) L st w else False) else False
      | _, _ => False)
    | _ => False)
  | .invokevirtual k => kO (kml (kown m) k) fun f => (match f.1 with
    | 1 => kO (kargs (f.2.2 + 1) st []) fun a => (match a.1 with
      | r :: _ => bif Nat.ble (kcat a.2) 8 && Nat.ble (kcat a.1) (kmax f.2.1) && krecv w r (kown f.2.1) then call f.2.1 a.1 a.2 else False
      | [] => False)
    | _ => False)
  | .invokespecial k => kO (kml (kown m) k) fun f => (match f.1 with
    | 2 => kO (kargs (f.2.2 + 1) st []) fun a => (match a.1 with
      | .ref _ :: _ => bif Nat.ble (kcat a.2) 8 && Nat.ble (kcat a.1) (kmax f.2.1) then call f.2.1 a.1 a.2 else False
      | _ => False)
    | 3 => kO (kargs (f.2.2 + 1) st []) fun a => (match a.1 with
      | .ref _ :: _ => bif Nat.ble (kcat a.2) 8 && Nat.ble (kcat a.1) (kmax f.2.1) then call f.2.1 a.1 a.2 else False
      | _ => False)
    | 5 => (match d, st with
      | _ + 1, .ref _ :: st => bif Nat.ble (kcat st) 8 then next (pc + len) L st w else False
      | _, _ => False)
    | _ => False)
  | .ireturn => (match st with
    | [.int v] => (match kret m with
      | some .int => ret (some (.int v))
      | some t => if narrow t (.int v) = .int v then ret (some (.int v)) else False
      | none => False)
    | _ => False)
  | .return_ => (match st with
    | [] => (match kret m with
      | none => ret none
      | some _ => False)
    | _ => False)
  | _ => False
/-- n instructions at most: the method ends, and Q holds of its answer and its world -/
def kE (xs : List Int32) : Nat → Nat → Nat → Nat → KL → List Value → KW → (Option Value → KW → Prop) → Prop
  | 0, _, _, _, _, _, _, _ => False
  | n + 1, d, m, pc, L, st, w, Q => kO (kcode m pc) fun c => kstep xs m d c.1 c.2 pc L st w (fun pc' L' st' w' => kE xs n d m pc' (kclr (kmk m pc') L') st' w' Q) (fun r => Q r w) (fun m' as st' => match d with
    | 0 => False
    | d' + 1 => kE xs n d' m' 0 (kent as (kmax m')) [] w (fun r w' => kE xs n d m (pc + c.2) (kclr (kmk m (pc + c.2)) L) (kpush r st') w' Q))
