/-! A small machine of its own over the printed bytecode: cells by number, ints beside shapes, one step a function. -/
abbrev Shp : Type := Nat × Nat × List (Option Nat)
abbrev Sg : Type := Nat → Nat → Int32
abbrev Mm : Type := List Shp × Sg
/-- the script's length, the script, whether a static of the JDK's is null -/
abbrev Xx : Type := Nat × (Nat → Int32) × Bool
/-- instruction, length, what it links, a constant -/
abbrev En : Type := Instr × Nat × List Nat × Int
abbrev Act : Type := Option (List Shp ⊕ ((Nat × Nat × Int32) ⊕ ((Nat × Nat × Option Nat) ⊕ (Nat × Nat × Nat × Nat × Nat))))
abbrev Lc : Type := List (Option Value)
def up2 (g : Sg) (c i : Nat) (v : Int32) : Sg := fun a j => if a = c ∧ j = i then v else g a j
def cp2 (g : Sg) (a i b j n : Nat) : Sg := fun c k => if c = b ∧ j ≤ k ∧ k < j + n then g a (i + (k - j)) else g c k
def setR (l : List Shp) (c k : Nat) (r : Option Nat) : List Shp := match l[c]? with
  | some s => l.set c (s.1, s.2.1, s.2.2.set k r)
  | none => l
def apA (M : Mm) (a : Act) : Mm := match a with
  | none => M
  | some (.inl sh) => (M.1 ++ sh, M.2)
  | some (.inr (.inl w)) => (M.1, up2 M.2 w.1 w.2.1 w.2.2)
  | some (.inr (.inr (.inl w))) => (setR M.1 w.1 w.2.1 w.2.2, M.2)
  | some (.inr (.inr (.inr w))) => (M.1, cp2 M.2 w.1 w.2.1 w.2.2.1 w.2.2.2.1 w.2.2.2.2)
def strs : List (List Int32) := [[105, 102], [97, 110, 100], [110, 111, 116], [119, 101, 105, 103, 104, 116], [99, 117, 116], [102, 114, 101, 101], [100, 114, 121], [104, 111, 117, 114, 115], [110, 105, 103, 104, 116], [102, 97, 114], [104, 111, 108, 100, 101, 114], [111, 119, 101, 100]]
def consts1 : List Int32 := [0, 0, 1, 1, 1]
def consts2 : List Int32 := [999, 0, 99999, 500, 99999]
/-- what lies outside: 1000 the script, 1001 and 1002 the static rows, 1010 .. the texts, 1030 .. their bytes, 1100 a thing never looked at -/
def xsh (X : Xx) (a : Nat) : Option Shp := if a = 1000 then some (0, X.1, []) else if a = 1001 then some (0, 5, []) else if a = 1002 then some (0, 5, []) else if a < 1010 then none else if a < 1022 then some (50, 2, [some (a + 20), none]) else if a < 1030 then none else if a < 1042 then some (1, (strs.getD (a - 1030) []).length, []) else none
def xva (X : Xx) (a i : Nat) : Int32 := if a = 1000 then X.2.1 i else if a = 1001 then consts1.getD i 0 else if a = 1002 then consts2.getD i 0 else if a < 1030 then 0 else (strs.getD (a - 1030) []).getD i 0
def shOf (X : Xx) (M : Mm) (a : Nat) : Option Shp := if a < 1000 then M.1[a]? else xsh X a
def rdv (X : Xx) (g : Sg) (a i : Nat) : Int32 := if a < 1000 then g a i else xva X a i
def rv (r : Option (Option Nat)) : Value := match r with
  | some (some b) => .ref b
  | _ => .null
def inb (i : Int32) (n : Nat) : Bool := !decide (i < 0) && decide (i.toNatClampNeg < n)
def clr (L : Lc) (i : Nat) : Lc := match i with
  | 0 => L
  | j + 1 => match L[j]? with
    | some (some w) => if w.category = 2 then L.set j none else L
    | _ => L
def st1 (L : Lc) (i : Nat) (v : Value) : Lc := (clr L i).set i (some v)
def st2 (L : Lc) (i : Nat) (v : Value) : Lc := ((clr L i).set i (some v)).set (i + 1) none
/-- kind of a field: 0 int, 1 boolean, 2 a reference -/
def fty (ft : List (List Nat)) (ci k : Nat) : Nat := (ft.getD ci []).getD k 0
def gf (ft : List (List Nat)) (X : Xx) (M : Mm) (ci k a : Nat) : Option Value := match shOf X M a with
  | some (t, n, rs) => if t = 10 + ci ∧ k < n then some (if fty ft ci k = 2 then rv rs[k]? else .int (rdv X M.2 a k)) else none
  | none => none
def cmpB (c : ClassFile.Cond) (x y : Int32) : Bool := match c with
  | .eq => decide (x = y)
  | .ne => decide (¬ x = y)
  | .lt => decide (x < y)
  | .ge => decide (y ≤ x)
  | .gt => decide (y < x)
  | .le => decide (x ≤ y)
def tg (pc : Nat) (off : Int) : Option Nat := if 0 ≤ (pc : Int) + off then some ((pc : Int) + off).toNat else none
abbrev Nx : Type := Nat × Lc × List Value × Act
def jmp (pc : Nat) (off : Int) (L : Lc) (st : List Value) : Option Nx := match tg pc off with
  | some t => some (t, L, st, none)
  | none => none
def br (pc : Nat) (off : Int) (b : Bool) (L : Lc) (st : List Value) : Option Nx := match tg pc off with
  | some t => some (if b then t else pc + 3, L, st, none)
  | none => none
def i2 (pc : Nat) (L : Lc) (st : List Value) (f : Int32 → Int32 → Option Int32) : Option Nx := match st with
  | .int y :: .int x :: r => match f x y with
    | some z => some (pc + 1, L, .int z :: r, none)
    | none => none
  | _ => none
def i1 (pc : Nat) (L : Lc) (st : List Value) (f : Int32 → Int32) : Option Nx := match st with
  | .int x :: r => some (pc + 1, L, .int (f x) :: r, none)
  | _ => none
def l2 (pc : Nat) (L : Lc) (st : List Value) (f : Int64 → Int64 → Option Int64) : Option Nx := match st with
  | .long y :: .long x :: r => match f x y with
    | some z => some (pc + 1, L, .long z :: r, none)
    | none => none
  | _ => none
def ldI (pc n i : Nat) (L : Lc) (st : List Value) : Option Nx := match L[i]? with
  | some (some (.int x)) => some (pc + n, L, .int x :: st, none)
  | _ => none
def ldL (pc n i : Nat) (L : Lc) (st : List Value) : Option Nx := match L[i]? with
  | some (some (.long x)) => some (pc + n, L, .long x :: st, none)
  | _ => none
def ldA (pc n i : Nat) (L : Lc) (st : List Value) : Option Nx := match L[i]? with
  | some (some (.ref x)) => some (pc + n, L, .ref x :: st, none)
  | some (some .null) => some (pc + n, L, .null :: st, none)
  | _ => none
def stI (pc n i : Nat) (L : Lc) (st : List Value) : Option Nx := match st with
  | .int x :: r => if i < L.length then some (pc + n, st1 L i (.int x), r, none) else none
  | _ => none
def stL (pc n i : Nat) (L : Lc) (st : List Value) : Option Nx := match st with
  | .long x :: r => if i + 1 < L.length then some (pc + n, st2 L i (.long x), r, none) else none
  | _ => none
def stA (pc n i : Nat) (L : Lc) (st : List Value) : Option Nx := match st with
  | .ref x :: r => if i < L.length then some (pc + n, st1 L i (.ref x), r, none) else none
  | .null :: r => if i < L.length then some (pc + n, st1 L i .null, r, none) else none
  | _ => none
/-- a load out of a row of ints (0), bytes (1), booleans (2) -/
def rld (X : Xx) (pc : Nat) (ok : Nat → Nat → Bool) (L : Lc) (st : List Value) (M : Mm) : Option Nx := match st with
  | .int i :: .ref a :: r => match shOf X M a with
    | some (t, n, _) => if ok t a && inb i n then some (pc + 1, L, .int (rdv X M.2 a i.toNatClampNeg) :: r, none) else none
    | none => none
  | _ => none
def rst (X : Xx) (pc : Nat) (ok : Nat → Bool) (f : Nat → Int32 → Int32) (L : Lc) (st : List Value) (M : Mm) : Option Nx := match st with
  | .int x :: .int i :: .ref a :: r => match M.1[a]? with
    | some (t, n, _) => if ok t && (inb i n && decide (a < 1000)) then some (pc + 1, L, r, some (.inr (.inl (a, i.toNatClampNeg, f t x)))) else none
    | none => none
  | _ => none
def ald (X : Xx) (pc : Nat) (L : Lc) (st : List Value) (M : Mm) : Option Nx := match st with
  | .int i :: .ref a :: r => match M.1[a]? with
    | some (t, n, rs) => if (t == 3 || t == 4) && (inb i n && decide (a < 1000)) then some (pc + 1, L, rv rs[i.toNatClampNeg]? :: r, none) else none
    | none => none
  | _ => none
def ast (X : Xx) (pc ci : Nat) (L : Lc) (st : List Value) (M : Mm) : Option Nx := match st with
  | .ref v :: .int i :: .ref a :: r => match M.1[a]?, M.1[v]? with
    | some (t, n, rs), some (t2, _, _) => if t == 3 && (inb i n && (decide (t2 = 10 + ci ∧ i.toNatClampNeg < rs.length) && (decide (a < 1000) && decide (v < 1000)))) then some (pc + 1, L, r, some (.inr (.inr (.inl (a, i.toNatClampNeg, some v))))) else none
    | _, _ => none
  | _ => none
def aln (X : Xx) (pc : Nat) (L : Lc) (st : List Value) (M : Mm) : Option Nx := match st with
  | .ref a :: r => match shOf X M a with
    | some (t, n, _) => if t < 5 then some (pc + 1, L, .int (Int32.ofNat n) :: r, none) else none
    | none => none
  | _ => none
def gfd (ft : List (List Nat)) (X : Xx) (pc : Nat) (au : List Nat) (L : Lc) (st : List Value) (M : Mm) : Option Nx := match au, st with
  | ci :: k :: _, .ref a :: r => match gf ft X M ci k a with
    | some v => some (pc + 3, L, v :: r, none)
    | none => none
  | _, _ => none
def pfd (ft : List (List Nat)) (X : Xx) (pc : Nat) (au : List Nat) (L : Lc) (st : List Value) (M : Mm) : Option Nx := match au, st with
  | ci :: k :: _, v :: .ref a :: r => match M.1[a]? with
    | some (t, n, rs) => if t = 10 + ci ∧ k < n ∧ a < 1000 then
        match v with
        | .int x => if fty ft ci k = 0 ∨ (fty ft ci k = 1 ∧ (x = 0 ∨ x = 1)) then some (pc + 3, L, r, some (.inr (.inl (a, k, x)))) else none
        | .ref b => if fty ft ci k = 2 ∧ k < rs.length then some (pc + 3, L, r, some (.inr (.inr (.inl (a, k, some b))))) else none
        | _ => none
      else none
    | none => none
  | _, _ => none
def newA (pc len : Nat) (t : Nat) (L : Lc) (st : List Value) (M : Mm) (refs : Bool) : Option Nx := match st with
  | .int n :: r => if ¬ n < 0 ∧ n.toNatClampNeg ≤ 100000 ∧ M.1.length < 999 then some (pc + len, L, .ref M.1.length :: r, some (.inl [(t, n.toNatClampNeg, if refs then List.replicate n.toNatClampNeg none else [])])) else none
  | _ => none
def newM (pc : Nat) (L : Lc) (st : List Value) (M : Mm) : Option Nx := match st with
  | .int k :: .int n :: r => if ¬ n < 0 ∧ ¬ k < 0 ∧ n.toNatClampNeg ≤ 10 ∧ k.toNatClampNeg ≤ 100000 ∧ M.1.length < 900 then some (pc + 4, L, .ref M.1.length :: r, some (.inl ((4, n.toNatClampNeg, (List.range n.toNatClampNeg).map (fun i => some (M.1.length + 1 + i))) :: List.replicate n.toNatClampNeg (0, k.toNatClampNeg, [])))) else none
  | _ => none
def cat8 (r : List Value) : Bool := decide ((r.map fun v => v.category).sum ≤ 8)
/-- static calls that are one step: 1 min, 2 max, 3 arraycopy -/
def prim (X : Xx) (pc : Nat) (k : Nat) (L : Lc) (st : List Value) (M : Mm) : Option Nx := match k, st with
  | 1, .int y :: .int x :: r => if cat8 r then some (pc + 3, L, .int (if y < x then y else x) :: r, none) else none
  | 2, .int y :: .int x :: r => if cat8 r then some (pc + 3, L, .int (if x < y then y else x) :: r, none) else none
  | 3, .int n :: .int dp :: .ref b :: .int sp :: .ref a :: r => match M.1[a]?, M.1[b]? with
    | some (t, na, _), some (t2, nb, _) => if t < 3 ∧ t2 = t ∧ a < 1000 ∧ b < 1000 ∧ ¬ sp < 0 ∧ ¬ dp < 0 ∧ ¬ n < 0 ∧ sp.toNatClampNeg + n.toNatClampNeg ≤ na ∧ dp.toNatClampNeg + n.toNatClampNeg ≤ nb ∧ cat8 r = true then some (pc + 3, L, r, some (.inr (.inr (.inr (a, sp.toNatClampNeg, b, dp.toNatClampNeg, n.toNatClampNeg))))) else none
    | _, _ => none
  | _, _ => none
def gst (X : Xx) (pc : Nat) (k : Nat) (L : Lc) (st : List Value) : Option Nx := match k with
  | 0 => some (pc + 3, L, .ref 1001 :: st, none)
  | 1 => some (pc + 3, L, .ref 1002 :: st, none)
  | 2 => some (pc + 3, L, .int 1 :: st, none)
  | _ => some (pc + 3, L, (if X.2.2 then .null else .ref 1100) :: st, none)
def sw (pc : Nat) (L : Lc) (st : List Value) (f : Int → Option Int) : Option Nx := match st with
  | .int x :: r => match f x.toInt with
    | some off => jmp pc off L r
    | none => none
  | _ => none
def twf (d lo hi : Int) (offs : Array Int) (x : Int) : Option Int := if x < lo ∨ hi < x then some d else offs[(x - lo).toNat]?
def lwf (d : Int) (ps : Array (Int × Int)) (x : Int) : Option Int := if (ps.toList.zip (ps.toList.drop 1)).all (fun (a, next) => a.1 < next.1) = true then some (Op.lookupswitch.offset ps.toList d x) else none
def pcore (ft : List (List Nat)) (X : Xx) (e : En) (pc : Nat) (L : Lc) (st : List Value) (M : Mm) : Option Nx := match e.1 with
  | .iconst n => some (pc + 1, L, .int (Int32.ofInt n) :: st, none)
  | .bipush n => some (pc + 2, L, .int (Int8.ofInt n).toInt32 :: st, none)
  | .sipush n => some (pc + 3, L, .int (Int16.ofInt n).toInt32 :: st, none)
  | .lconst n => some (pc + 1, L, .long (Int64.ofNat (n : Nat)) :: st, none)
  | .ldc _ => match e.2.2.1 with
    | 0 :: _ => some (pc + 2, L, .int (Int32.ofInt e.2.2.2) :: st, none)
    | 1 :: q :: _ => some (pc + 2, L, .ref (1010 + q) :: st, none)
    | _ => none
  | .ldc_w _ => some (pc + 3, L, .int (Int32.ofInt e.2.2.2) :: st, none)
  | .ldc2_w _ => some (pc + 3, L, .long (Int64.ofInt e.2.2.2) :: st, none)
  | .iload_n k => ldI pc 1 k L st
  | .iload i => ldI pc 2 i L st
  | .lload_n k => ldL pc 1 k L st
  | .lload i => ldL pc 2 i L st
  | .aload_n k => ldA pc 1 k L st
  | .aload i => ldA pc 2 i L st
  | .istore_n k => stI pc 1 k L st
  | .istore i => stI pc 2 i L st
  | .lstore_n k => stL pc 1 k L st
  | .lstore i => stL pc 2 i L st
  | .astore_n k => stA pc 1 k L st
  | .astore i => stA pc 2 i L st
  | .iinc i n => match L[i]? with
    | some (some (.int x)) => some (pc + 3, st1 L i (.int (x + Int32.ofInt n)), st, none)
    | _ => none
  | .iadd => i2 pc L st (fun x y => some (x + y))
  | .isub => i2 pc L st (fun x y => some (x - y))
  | .imul => i2 pc L st (fun x y => some (x * y))
  | .iand => i2 pc L st (fun x y => some (x &&& y))
  | .ishl => i2 pc L st (fun x y => some (x <<< (y &&& 31)))
  | .ishr => i2 pc L st (fun x y => some (x >>> (y &&& 31)))
  | .iushr => i2 pc L st (fun x y => some (x.toUInt32 >>> (y.toUInt32 &&& Int32.toUInt32 31)).toInt32)
  | .idiv => i2 pc L st (fun x y => if y = 0 then none else some (x / y))
  | .irem => i2 pc L st (fun x y => if y = 0 then none else some (x - x / y * y))
  | .ineg => i1 pc L st (fun x => -x)
  | .i2b => i1 pc L st (fun x => x.toInt8.toInt32)
  | .i2c => i1 pc L st (fun x => (x.toUInt32 % 65536).toInt32)
  | .i2l => match st with
    | .int x :: r => some (pc + 1, L, .long x.toInt64 :: r, none)
    | _ => none
  | .l2i => match st with
    | .long x :: r => some (pc + 1, L, .int x.toInt32 :: r, none)
    | _ => none
  | .ladd => l2 pc L st (fun x y => some (x + y))
  | .lsub => l2 pc L st (fun x y => some (x - y))
  | .lmul => l2 pc L st (fun x y => some (x * y))
  | .ldiv => l2 pc L st (fun x y => if y = 0 then none else some (x / y))
  | .lrem => l2 pc L st (fun x y => if y = 0 then none else some (x - x / y * y))
  | .lcmp => match st with
    | .long y :: .long x :: r => some (pc + 1, L, .int (lg_cmp x y) :: r, none)
    | _ => none
  | .dup => match st with
    | v :: r => if v.category = 1 then some (pc + 1, L, v :: v :: r, none) else none
    | _ => none
  | .pop => match st with
    | v :: r => if v.category = 1 then some (pc + 1, L, r, none) else none
    | _ => none
  | .dup_x1 => match st with
    | v :: w :: r => if v.category = 1 ∧ w.category = 1 then some (pc + 1, L, v :: w :: v :: r, none) else none
    | _ => none
  | .dup2 => match st with
    | v :: w :: r => if v.category = 1 ∧ w.category = 1 then some (pc + 1, L, v :: w :: v :: w :: r, none) else none
    | _ => none
  | .goto off => jmp pc off L st
  | .if_icmp c off => match st with
    | .int y :: .int x :: r => br pc off (cmpB c x y) L r
    | _ => none
  | .ifCond c off => match st with
    | .int x :: r => br pc off (cmpB c x 0) L r
    | _ => none
  | .ifnonnull off => match st with
    | .ref _ :: r => jmp pc off L r
    | .null :: r => some (pc + 3, L, r, none)
    | _ => none
  | .tableswitch d lo hi offs => sw pc L st (twf d lo hi offs)
  | .lookupswitch d ps => sw pc L st (lwf d ps)
  | .getfield _ => gfd ft X pc e.2.2.1 L st M
  | .putfield _ => pfd ft X pc e.2.2.1 L st M
  | .getstatic _ => match e.2.2.1 with
    | k :: _ => gst X pc k L st
    | _ => none
  | .iaload => rld X pc (fun t _ => t == 0) L st M
  | .baload => rld X pc (fun t _ => t == 1 || t == 2) L st M
  | .aaload => ald X pc L st M
  | .iastore => rst X pc (fun t => t == 0) (fun _ x => x) L st M
  | .bastore => rst X pc (fun t => t == 1 || t == 2) (fun t x => if t = 1 then vp_nar .byte x else vp_nar .boolean x) L st M
  | .aastore => match e.2.2.1 with
    | ci :: _ => ast X pc ci L st M
    | _ => none
  | .arraylength => aln X pc L st M
  | .newarray at' => match at' with
    | .int => newA pc 2 0 L st M false
    | .byte => newA pc 2 1 L st M false
    | .boolean => newA pc 2 2 L st M false
    | _ => none
  | .anewarray _ => newA pc 3 3 L st M true
  | .multianewarray _ d => if d = 2 then newM pc L st M else none
  | .new _ => match e.2.2.1 with
    | ci :: n :: _ => if M.1.length < 999 then some (pc + 3, L, .ref M.1.length :: st, some (.inl [(10 + ci, n, List.replicate n none)])) else none
    | _ => none
  | .invokespecial _ => match e.2.2.1, st with
    | 0 :: _, .ref _ :: r => if cat8 r then some (pc + 3, L, r, none) else none
    | _, _ => none
  | .invokestatic _ => match e.2.2.1 with
    | k :: _ => if k < 10 then prim X pc k L st M else none
    | _ => none
  | _ => none
def callOf (X : Xx) (M : Mm) (e : En) (st : List Value) : Option (Nat × List Value × List Value) := match e.2.2.1 with
  | k :: mid :: n :: rc :: _ => if 10 ≤ k ∧ n ≤ st.length ∧ cat8 (st.drop n) = true ∧ e.2.1 = 3 then
      match e.1 with
      | .invokestatic _ => if k = 11 ∨ k = 14 then some (mid, (st.take n).reverse, st.drop n) else none
      | .invokespecial _ => if k = 12 ∨ k = 15 then match (st.take n).reverse with
          | .ref b :: as => some (mid, .ref b :: as, st.drop n)
          | _ => none
        else none
      | .invokevirtual _ => if k = 10 ∨ k = 13 then match (st.take n).reverse with
          | .ref b :: as => match shOf X M b with
            | some (t, _, _) => if t = 10 + rc then some (mid, .ref b :: as, st.drop n) else none
            | none => none
          | _ => none
        else none
      | _ => none
    else none
  | _ => none
def retOf (rt : Option FieldType) (i : Instr) (st : List Value) : Option (Option Value) := match i, rt, st with
  | .return_, none, [] => some none
  | .ireturn, some ty, [.int v] => if narrow ty (.int v) = .int v then some (some (.int v)) else none
  | .lreturn, some .long, [.long v] => some (some (.long v))
  | .areturn, some (.object _), [.ref v] => some (some (.ref v))
  | _, _, _ => none
/-- fewer locals -/
def wk (L' L : Lc) : Prop := L'.length = L.length ∧ ∀ (i : Nat) (v : Value), L'[i]? = some (some v) → L[i]? = some (some v)
abbrev Out : Type := Option Value × Mm
abbrev Cl : Type := Nat → List Value → Mm → Out → Prop
def EvF (ft : List (List Nat)) (X : Xx) (call : Cl) (rt : Option FieldType) (cd : Nat → Option En) (o : Out) : Nat → Nat → Lc → List Value → Mm → Prop
  | 0, _, _, _, _ => False
  | n + 1, pc, L, st, M => (∃ L', wk L' L ∧ EvF ft X call rt cd o n pc L' st M) ∨ ∃ e, cd pc = some e ∧
      ((∃ x : Nx, pcore ft X e pc L st M = some x ∧ EvF ft X call rt cd o n x.1 x.2.1 x.2.2.1 (apA M x.2.2.2)) ∨
       (∃ v, retOf rt e.1 st = some v ∧ o = (v, M)) ∨
       (∃ c : Nat × List Value × List Value, callOf X M e st = some c ∧ ∃ o1 : Out, call c.1 c.2.1 M o1 ∧ EvF ft X call rt cd o n (pc + 3) L (o1.1.toList ++ c.2.2) o1.2))
def iL : List Value → Lc
  | [] => []
  | v :: vs => if v.category = 2 then some v :: none :: iL vs else some v :: iL vs
def initL (as : List Value) (n : Nat) : Lc := iL as ++ List.replicate (n - (iL as).length) none
/-- a method: its name, bytes, locals, answer, code -/
abbrev Mi : Type := MethodName × ByteArray × Nat × Option FieldType × List (Nat × En)
def lkp (l : List (Nat × En)) (pc : Nat) : Option En := match l with
  | [] => none
  | q :: r => if q.1 = pc then some q.2 else lkp r pc
def EvM (ft : List (List Nat)) (mt : List Mi) (X : Xx) : Nat → Cl
  | 0 => fun _ _ _ _ => False
  | d + 1 => fun mid as M o => ∃ mi, mt[mid]? = some mi ∧ (iL as).length ≤ mi.2.2.1 ∧ ∃ n, EvF ft X (EvM ft mt X d) mi.2.2.2.1 (lkp mi.2.2.2.2) o n 0 (initL as mi.2.2.1) [] M
