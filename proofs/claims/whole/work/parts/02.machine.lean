/-! THE SMALL MACHINE: a pure reading of the bytecode over typed rows (ints, longs, the order of the Law objects); 'ev' is its meaning, 'sound' (later) ties it to the machine -/
abbrev AV : Type := Int32 ⊕ (Int64 ⊕ (Nat × Nat))
abbrev SS : Type := (Nat → Nat → Nat → Int32) × ((Nat → Nat → Nat → Int64) × (Nat → Nat))
abbrev LO : Type := List (Option AV)
abbrev RE : Type := Option (Option AV × SS)
abbrev RF : Type := Nat → Nat → LO → List AV → SS → RE
/-- an instruction with what it means here: ins, length, five numbers, place of its word, constant, long constant, switch, slots that are dead ahead of it -/
abbrev En : Type := Instr × Nat × Nat × Nat × Nat × Nat × Nat × Nat × Int32 × Int64 × List (Int32 × Nat) × List Nat
abbrev vI (x : Int32) : AV := .inl x
abbrev vL (x : Int64) : AV := .inr (.inl x)
abbrev vR (a : Nat × Nat) : AV := .inr (.inr a)
abbrev eP (ins : Instr) (len : Nat) : En := (ins, len, 0, 0, 0, 0, 0, 0, 0, 0, [], [])
abbrev eB (ins : Instr) (a : Nat) : En := (ins, 3, a, 0, 0, 0, 0, 0, 0, 0, [], [])
abbrev eC (ins : Instr) (len pos : Nat) (v : Int32) : En := (ins, len, 0, 0, 0, 0, 0, pos, v, 0, [], [])
abbrev eL (ins : Instr) (len pos : Nat) (v : Int64) : En := (ins, len, 0, 0, 0, 0, 0, pos, 0, v, [], [])
abbrev eF (ins : Instr) (ci k d pos : Nat) : En := (ins, 3, ci, k, d, 0, 0, pos, 0, 0, [], [])
abbrev eM (ins : Instr) (callee n rc mx cn pos : Nat) : En := (ins, 3, callee, n, rc, mx, cn, pos, 0, 0, [], [])
abbrev eR (ins : Instr) (d : Nat) : En := (ins, 1, 0, 0, d, 0, 0, 0, 0, 0, [], [])
abbrev eS (ins : Instr) (len a : Nat) (sw : List (Int32 × Nat)) : En := (ins, len, a, 0, 0, 0, 0, 0, 0, 0, sw, [])
abbrev eK (ks : List Nat) (e : En) : En := match e with
  | (a, b, c, d, f, g, h, i, j, k, l, _) => (a, b, c, d, f, g, h, i, j, k, l, ks)
def wI (s : SS) (k j i : Nat) (v : Int32) : SS := (fun a b c => if a = k ∧ b = j ∧ c = i then v else s.1 a b c, s.2)
def wL (s : SS) (k j i : Nat) (v : Int64) : SS := (s.1, fun a b c => if a = k ∧ b = j ∧ c = i then v else s.2.1 a b c, s.2.2)
def wR (s : SS) (i v : Nat) : SS := (s.1, s.2.1, fun c => if c = i then v else s.2.2 c)
def wA (s : SS) (k j : Nat) (f : Nat → Int32) : SS := (fun a b c => if a = k ∧ b = j then f c else s.1 a b c, s.2)
/-- kinds of cells: what an object is of (9: none); type of an array (0: none, 1 int, 2 long, 3 boolean, 4 int rows, 5 Laws, 6 the script); its length; how many there are -/
def kcl (k : Nat) : Nat := [3, 1, 1, 9, 9, 9, 9, 9, 9, 9, 9, 2, 9, 0, 9, 9, 9, 9, 9, 9, 9, 9, 9, 9, 9, 9, 9, 9, 9, 9, 4, 9, 9, 9, 9, 9, 9, 9, 9, 9, 9, 9, 9, 9, 9, 9, 9, 9, 9, 9, 9, 9, 9, 9, 9, 9, 9, 9, 9, 9, 9].getD k 9
def kar (k : Nat) : Nat := [0, 0, 0, 4, 4, 1, 1, 1, 1, 1, 5, 0, 1, 0, 1, 1, 1, 3, 1, 2, 1, 2, 1, 0, 0, 0, 0, 0, 0, 0, 0, 1, 1, 1, 1, 1, 1, 1, 3, 1, 1, 1, 1, 1, 1, 1, 3, 1, 1, 1, 1, 1, 1, 2, 0, 0, 0, 0, 0, 0, 6].getD k 0
def kln (k : Nat) : Nat := [0, 0, 0, 6, 4, 6, 4, 40, 40, 28, 8, 0, 6, 0, 6, 6, 6, 6, 1024, 1024, 1024, 1024, 8, 0, 0, 0, 0, 0, 0, 0, 0, 6, 6, 240, 40, 4, 160, 28, 6, 6, 6, 6, 8, 8, 8, 8, 48, 48, 48, 48, 28, 8192, 1024, 1024, 0, 0, 0, 0, 0, 0, 0].getD k 0
def kct (k : Nat) : Nat := [1, 1, 1, 1, 1, 1, 1, 6, 4, 1, 1, 1, 1, 9, 9, 9, 9, 9, 1, 1, 1, 1, 1, 0, 0, 0, 0, 0, 0, 0, 1, 1, 1, 1, 1, 1, 1, 1, 1, 1, 1, 1, 1, 1, 1, 1, 1, 1, 1, 1, 1, 1, 1, 1, 0, 0, 0, 0, 0, 0, 1].getD k 0
/-- the kind that a field of a kind leads to (the same number within it) -/
def rfT (k : Nat) : List Nat := [[1, 2, 9, 10, 11, 12, 13], [3, 5], [4, 6], [], [], [], [], [], [], [], [], [0, 0, 18, 19, 20, 21, 22], [], [0, 0, 0, 0, 0, 14, 15, 16, 17], [], [], [], [], [], [], [], [], [], [], [], [], [], [], [], [], [0, 31, 0, 0, 0, 32, 33, 34, 35, 36, 0, 37, 0, 0, 0, 38, 39, 40, 41, 42, 43, 44, 45, 46, 47, 48, 49, 50, 0, 51, 0, 0, 52, 53], [], [], [], [], [], [], [], [], [], [], [], [], [], [], [], [], [], [], [], [], [], [], [], [], [], [], [], [], [], []].getD k []
def rfa (s : SS) (kd j k : Nat) : Nat × Nat := bif Nat.beq kd 0 && Nat.beq k 6 then (13, s.2.2 8) else ((rfT kd).getD k 0, j)
def ixB (x : Int32) (n : Nat) : Bool := !(decide (x < 0) || decide (n ≤ x.toNatClampNeg))
def isZ (x : Int32) : Bool := decide (x = 0) || decide (x = 1)
def isLg (o : Option AV) : Bool := match o with
  | some (.inr (.inl _)) => true
  | _ => false
def clr (ls : LO) (k : Nat) : LO := match k with
  | 0 => ls
  | i + 1 => bif isLg (ls.getD i none) then ls.set i none else ls
def st1 (ls : LO) (k : Nat) (v : AV) : LO := (clr ls k).set k (some v)
def st2 (ls : LO) (k : Nat) (v : AV) : LO := ((clr ls k).set k (some v)).set (k + 1) none
/-- slots that are dead (0 in the mask) are forgotten -/
def kil (ks : List Nat) (ls : LO) : LO := match ks, ls with
  | k :: m, a :: r => (match k with
    | 0 => none
    | _ => a) :: kil m r
  | _, r => r
def cat (v : AV) : Nat := match v with
  | .inr (.inl _) => 2
  | _ => 1
def cats (st : List AV) : Nat := match st with
  | [] => 0
  | v :: r => cat v + cats r
def entA (as : List AV) : LO := match as with
  | [] => []
  | .inl x :: r => some (.inl x) :: entA r
  | .inr (.inl x) :: r => some (.inr (.inl x)) :: none :: entA r
  | .inr (.inr a) :: r => some (.inr (.inr a)) :: entA r
def padL (n : Nat) (ls : LO) : LO := match n with
  | 0 => ls
  | m + 1 => match ls with
    | [] => none :: padL m []
    | a :: r => a :: padL m r
def entL (as : List AV) (n : Nat) : LO := padL n (entA as)
def cV (r : RE) (k : SS → RE) : RE := match r with
  | some (none, s) => k s
  | _ => none
def cI (r : RE) (k : Int32 → SS → RE) : RE := match r with
  | some (some (.inl x), s) => k x s
  | _ => none
def cL (r : RE) (k : Int64 → SS → RE) : RE := match r with
  | some (some (.inr (.inl x)), s) => k x s
  | _ => none
def swl (f : Nat → RE) (d : Nat) (x : Int32) (l : List (Int32 × Nat)) : RE := match l with
  | [] => f d
  | (v, t) :: r => if x = v then f t else swl f d x r
def op1i (st : List AV) (k : Int32 → List AV → RE) : RE := match st with
  | .inl x :: r => k x r
  | _ => none
def op2i (st : List AV) (k : Int32 → Int32 → List AV → RE) : RE := match st with
  | .inl y :: .inl x :: r => k x y r
  | _ => none
def op1l (st : List AV) (k : Int64 → List AV → RE) : RE := match st with
  | .inr (.inl x) :: r => k x r
  | _ => none
def op2l (st : List AV) (k : Int64 → Int64 → List AV → RE) : RE := match st with
  | .inr (.inl y) :: .inr (.inl x) :: r => k x y r
  | _ => none
def opli (st : List AV) (k : Int64 → Int32 → List AV → RE) : RE := match st with
  | .inl y :: .inr (.inl x) :: r => k x y r
  | _ => none
def op1r (st : List AV) (k : Nat → Nat → List AV → RE) : RE := match st with
  | .inr (.inr (kd, j)) :: r => k kd j r
  | _ => none
def opix (st : List AV) (k : Int32 → Nat → Nat → List AV → RE) : RE := match st with
  | .inl x :: .inr (.inr (kd, j)) :: r => k x kd j r
  | _ => none
def callx (cal : RF) (callee nb rc mx : Nat) (as rest : List AV) (s : SS) (k : List AV → SS → RE) : RE := bif Nat.ble (cats rest) 8 && (Nat.ble (entA as).length mx && Nat.beq as.length nb) then (match rc with
  | 0 => cV (cal callee 0 (entL as mx) [] s) (fun s1 => k rest s1)
  | 1 => cI (cal callee 0 (entL as mx) [] s) (fun x s1 => k (.inl x :: rest) s1)
  | _ => cL (cal callee 0 (entL as mx) [] s) (fun x s1 => k (.inr (.inl x) :: rest) s1)) else none
def copyx (st : List AV) (s : SS) (k : List AV → SS → RE) : RE := match st with
  | .inl n :: .inl dp :: .inr (.inr (kd, j)) :: .inl sp :: .inr (.inr (kd0, j0)) :: r => bif Nat.beq (kar kd) 1 && (Nat.beq (kar kd0) 1 && Nat.ble (cats r) 8) then (if ¬ sp < 0 ∧ ¬ dp < 0 ∧ ¬ n < 0 ∧ sp.toNatClampNeg + n.toNatClampNeg ≤ kln kd0 ∧ dp.toNatClampNeg + n.toNatClampNeg ≤ kln kd then k r (wA s kd j (va_cpy (s.1 kd0 j0) (s.1 kd j) sp.toNatClampNeg dp.toNatClampNeg n.toNatClampNeg)) else none) else none
  | _ => none
def ldx (ls : LO) (k : Nat) (t : Nat) (f : AV → RE) : RE := match ls.getD k none with
  | some (.inl x) => bif Nat.beq t 0 then f (.inl x) else none
  | some (.inr (.inl x)) => bif Nat.beq t 1 then f (.inr (.inl x)) else none
  | some (.inr (.inr x)) => bif Nat.beq t 2 then f (.inr (.inr x)) else none
  | none => none
def getx (s : SS) (d ci k kd j : Nat) (f : AV → RE) : RE := bif Nat.beq (kcl kd) ci then (match d with
  | 0 => f (.inl (s.1 kd j k))
  | 1 => f (.inr (.inl (s.2.1 kd j k)))
  | 2 => f (.inr (.inr (rfa s kd j k)))
  | _ => f (.inl (s.1 kd j k))) else none
def putx (s : SS) (d ci k : Nat) (st : List AV) (f : List AV → SS → RE) : RE := match st with
  | .inl x :: .inr (.inr (kd, j)) :: r => bif Nat.beq (kcl kd) ci then (match d with
    | 0 => f r (wI s kd j k x)
    | 3 => bif isZ x then f r (wI s kd j k x) else none
    | _ => none) else none
  | .inr (.inl x) :: .inr (.inr (kd, j)) :: r => bif Nat.beq (kcl kd) ci && Nat.beq d 1 then f r (wL s kd j k x) else none
  | .inr (.inr (kv, jv)) :: .inr (.inr (kd, _)) :: r => bif Nat.beq (kcl kd) ci && (Nat.beq kd 0 && (Nat.beq k 6 && (Nat.beq kv 13 && Nat.beq d 2))) then f r (wR s 8 jv) else none
  | _ => none
def aldx (s : SS) (t : Nat) (x : Int32) (kd j : Nat) (f : AV → RE) : RE := match t with
  | 1 => bif Nat.beq (kar kd) 6 then (if ixB x (s.1 60 1 0).toNatClampNeg = true then f (.inl (s.1 kd j x.toNatClampNeg)) else none) else bif Nat.beq (kar kd) 1 then (if ixB x (kln kd) = true then f (.inl (s.1 kd j x.toNatClampNeg)) else none) else none
  | 2 => bif Nat.beq (kar kd) 2 then (if ixB x (kln kd) = true then f (.inr (.inl (s.2.1 kd j x.toNatClampNeg))) else none) else none
  | 3 => bif Nat.beq (kar kd) 3 then (if ixB x (kln kd) = true then f (.inl (s.1 kd j x.toNatClampNeg)) else none) else none
  | _ => bif Nat.beq (kar kd) 4 then (if ixB x (kln kd) = true then f (.inr (.inr (kd + 4, x.toNatClampNeg))) else none) else bif Nat.beq (kar kd) 5 then (if ixB x (kln kd) = true then f (.inr (.inr (13, s.2.2 x.toNatClampNeg))) else none) else none
def astx (s : SS) (t : Nat) (st : List AV) (f : List AV → SS → RE) : RE := match st with
  | .inl v :: .inl x :: .inr (.inr (kd, j)) :: r => (match t with
    | 1 => bif Nat.beq (kar kd) 1 then (if ixB x (kln kd) = true then f r (wI s kd j x.toNatClampNeg v) else none) else none
    | 3 => bif Nat.beq (kar kd) 3 then (if ixB x (kln kd) = true then f r (wI s kd j x.toNatClampNeg (v &&& 1)) else none) else none
    | _ => none)
  | .inr (.inl v) :: .inl x :: .inr (.inr (kd, j)) :: r => bif Nat.beq t 2 && Nat.beq (kar kd) 2 then (if ixB x (kln kd) = true then f r (wL s kd j x.toNatClampNeg v) else none) else none
  | .inr (.inr (kv, jv)) :: .inl x :: .inr (.inr (kd, _)) :: r => bif Nat.beq t 4 && (Nat.beq (kar kd) 5 && Nat.beq kv 13) then (if ixB x (kln kd) = true then f r (wR s x.toNatClampNeg jv) else none) else none
  | _ => none
def alnx (s : SS) (kd : Nat) (f : Int32 → RE) : RE := bif Nat.beq (kar kd) 6 then f (s.1 60 1 0) else bif Nat.ble 1 (kar kd) then f (nI (kln kd)) else none
def dupx (st : List AV) (k : List AV → RE) : RE := match st with
  | .inl x :: r => k (.inl x :: .inl x :: r)
  | .inr (.inr x) :: r => k (.inr (.inr x) :: .inr (.inr x) :: r)
  | _ => none
def popx (st : List AV) (k : List AV → RE) : RE := match st with
  | .inl _ :: r => k r
  | .inr (.inr _) :: r => k r
  | _ => none
def dup2x (st : List AV) (k : List AV → RE) : RE := match st with
  | .inl y :: .inl x :: r => k (.inl y :: .inl x :: .inl y :: .inl x :: r)
  | .inl y :: .inr (.inr x) :: r => k (.inl y :: .inr (.inr x) :: .inl y :: .inr (.inr x) :: r)
  | .inr (.inl x) :: r => k (.inr (.inl x) :: .inr (.inl x) :: r)
  | _ => none
def retx (st : List AV) (d : Nat) (s : SS) : RE := match st with
  | [.inl x] => bif Nat.beq d 0 then some (some (.inl x), s) else bif Nat.beq d 3 then (bif isZ x then some (some (.inl x), s) else none) else none
  | [.inr (.inl x)] => bif Nat.beq d 1 then some (some (.inr (.inl x)), s) else none
  | [] => bif Nat.beq d 2 then some (none, s) else none
  | _ => none
def recvx (as : List AV) (cn : Nat) : Bool := match as with
  | .inr (.inr (kd, _)) :: _ => Nat.beq (kcl kd) cn
  | _ => false
/-- the slots, row by row, before the next step -/
def frc (ls : LO) (k : LO → RE) : RE := match ls with
  | [] => k []
  | a :: r => frc r (fun q => k (a :: q))
def opx (nx cal : RF) (i pc : Nat) (en : En) (ls : LO) (st : List AV) (s : SS) : RE := match en with
  | (ins, len, a, b, d, e, f, _, cv, lv, sw, _) => match ins with
    | .iconst _ => nx i (pc + len) ls (.inl cv :: st) s
    | .bipush _ => nx i (pc + len) ls (.inl cv :: st) s
    | .sipush _ => nx i (pc + len) ls (.inl cv :: st) s
    | .ldc _ => nx i (pc + len) ls (.inl cv :: st) s
    | .ldc_w _ => nx i (pc + len) ls (.inl cv :: st) s
    | .lconst _ => nx i (pc + len) ls (.inr (.inl lv) :: st) s
    | .ldc2_w _ => nx i (pc + len) ls (.inr (.inl lv) :: st) s
    | .iload k => ldx ls k 0 (fun v => nx i (pc + len) ls (v :: st) s)
    | .iload_n k => ldx ls k.val 0 (fun v => nx i (pc + len) ls (v :: st) s)
    | .lload k => ldx ls k 1 (fun v => nx i (pc + len) ls (v :: st) s)
    | .lload_n k => ldx ls k.val 1 (fun v => nx i (pc + len) ls (v :: st) s)
    | .aload k => ldx ls k 2 (fun v => nx i (pc + len) ls (v :: st) s)
    | .aload_n k => ldx ls k.val 2 (fun v => nx i (pc + len) ls (v :: st) s)
    | .istore k => op1i st (fun x r => frc (st1 ls k (.inl x)) (fun l => nx i (pc + len) l r s))
    | .istore_n k => op1i st (fun x r => frc (st1 ls k.val (.inl x)) (fun l => nx i (pc + len) l r s))
    | .lstore k => op1l st (fun x r => frc (st2 ls k (.inr (.inl x))) (fun l => nx i (pc + len) l r s))
    | .lstore_n k => op1l st (fun x r => frc (st2 ls k.val (.inr (.inl x))) (fun l => nx i (pc + len) l r s))
    | .astore k => op1r st (fun kd j r => frc (st1 ls k (.inr (.inr (kd, j)))) (fun l => nx i (pc + len) l r s))
    | .astore_n k => op1r st (fun kd j r => frc (st1 ls k.val (.inr (.inr (kd, j)))) (fun l => nx i (pc + len) l r s))
    | .iinc k _ => ldx ls k 0 (fun v => match v with
      | .inl x => frc (st1 ls k (.inl (x + cv))) (fun l => nx i (pc + len) l st s)
      | _ => none)
    | .iadd => op2i st (fun x y r => nx i (pc + len) ls (.inl (x + y) :: r) s)
    | .isub => op2i st (fun x y r => nx i (pc + len) ls (.inl (x - y) :: r) s)
    | .imul => op2i st (fun x y r => nx i (pc + len) ls (.inl (x * y) :: r) s)
    | .iand => op2i st (fun x y r => nx i (pc + len) ls (.inl (x &&& y) :: r) s)
    | .ior => op2i st (fun x y r => nx i (pc + len) ls (.inl (x ||| y) :: r) s)
    | .ixor => op2i st (fun x y r => nx i (pc + len) ls (.inl (x ^^^ y) :: r) s)
    | .idiv => op2i st (fun x y r => if y = 0 then none else nx i (pc + len) ls (.inl (x / y) :: r) s)
    | .irem => op2i st (fun x y r => if y = 0 then none else nx i (pc + len) ls (.inl (x - x / y * y) :: r) s)
    | .ineg => op1i st (fun x r => nx i (pc + len) ls (.inl (-x) :: r) s)
    | .ishl => op2i st (fun x y r => nx i (pc + len) ls (.inl (x <<< (y &&& 31)) :: r) s)
    | .ishr => op2i st (fun x y r => nx i (pc + len) ls (.inl (x >>> (y &&& 31)) :: r) s)
    | .iushr => op2i st (fun x y r => nx i (pc + len) ls (.inl (x.toUInt32 >>> (y.toUInt32 &&& Int32.toUInt32 31)).toInt32 :: r) s)
    | .ladd => op2l st (fun x y r => nx i (pc + len) ls (.inr (.inl (x + y)) :: r) s)
    | .lsub => op2l st (fun x y r => nx i (pc + len) ls (.inr (.inl (x - y)) :: r) s)
    | .lmul => op2l st (fun x y r => nx i (pc + len) ls (.inr (.inl (x * y)) :: r) s)
    | .land => op2l st (fun x y r => nx i (pc + len) ls (.inr (.inl (x &&& y)) :: r) s)
    | .lor => op2l st (fun x y r => nx i (pc + len) ls (.inr (.inl (x ||| y)) :: r) s)
    | .ldiv => op2l st (fun x y r => if y = 0 then none else nx i (pc + len) ls (.inr (.inl (x / y)) :: r) s)
    | .lrem => op2l st (fun x y r => if y = 0 then none else nx i (pc + len) ls (.inr (.inl (x - x / y * y)) :: r) s)
    | .lneg => op1l st (fun x r => nx i (pc + len) ls (.inr (.inl (-x)) :: r) s)
    | .lcmp => op2l st (fun x y r => nx i (pc + len) ls (.inl (lg_cmp x y) :: r) s)
    | .lshl => opli st (fun x y r => nx i (pc + len) ls (.inr (.inl (x <<< (y.toInt64 &&& 63))) :: r) s)
    | .lshr => opli st (fun x y r => nx i (pc + len) ls (.inr (.inl (x >>> (y.toInt64 &&& 63))) :: r) s)
    | .lushr => opli st (fun x y r => nx i (pc + len) ls (.inr (.inl (x.toUInt64 >>> (y.toInt64.toUInt64 &&& Int64.toUInt64 63)).toInt64) :: r) s)
    | .i2l => op1i st (fun x r => nx i (pc + len) ls (.inr (.inl x.toInt64) :: r) s)
    | .l2i => op1l st (fun x r => nx i (pc + len) ls (.inl x.toInt32 :: r) s)
    | .i2b => op1i st (fun x r => nx i (pc + len) ls (.inl x.toInt8.toInt32 :: r) s)
    | .dup => dupx st (fun r => nx i (pc + len) ls r s)
    | .dup2 => dup2x st (fun r => nx i (pc + len) ls r s)
    | .pop => popx st (fun r => nx i (pc + len) ls r s)
    | .goto _ => nx i a ls st s
    | .ifCond c _ => op1i st (fun x r => match c with
      | .eq => if x = 0 then nx i a ls r s else nx i (pc + len) ls r s
      | .ne => if x = 0 then nx i (pc + len) ls r s else nx i a ls r s
      | .lt => if x < 0 then nx i a ls r s else nx i (pc + len) ls r s
      | .ge => if x < 0 then nx i (pc + len) ls r s else nx i a ls r s
      | .gt => if 0 < x then nx i a ls r s else nx i (pc + len) ls r s
      | .le => if 0 < x then nx i (pc + len) ls r s else nx i a ls r s)
    | .if_icmp c _ => op2i st (fun x y r => match c with
      | .eq => if x = y then nx i a ls r s else nx i (pc + len) ls r s
      | .ne => if x = y then nx i (pc + len) ls r s else nx i a ls r s
      | .lt => if x < y then nx i a ls r s else nx i (pc + len) ls r s
      | .ge => if x < y then nx i (pc + len) ls r s else nx i a ls r s
      | .gt => if y < x then nx i a ls r s else nx i (pc + len) ls r s
      | .le => if y < x then nx i (pc + len) ls r s else nx i a ls r s)
    | .tableswitch _ _ _ _ => op1i st (fun x r => swl (fun t => nx i t ls r s) a x sw)
    | .lookupswitch _ _ => op1i st (fun x r => swl (fun t => nx i t ls r s) a x sw)
    | .getfield _ => op1r st (fun kd j r => getx s d a b kd j (fun v => nx i (pc + len) ls (v :: r) s))
    | .putfield _ => putx s d a b st (fun r s1 => nx i (pc + len) ls r s1)
    | .iaload => opix st (fun x kd j r => aldx s 1 x kd j (fun v => nx i (pc + len) ls (v :: r) s))
    | .laload => opix st (fun x kd j r => aldx s 2 x kd j (fun v => nx i (pc + len) ls (v :: r) s))
    | .baload => opix st (fun x kd j r => aldx s 3 x kd j (fun v => nx i (pc + len) ls (v :: r) s))
    | .aaload => opix st (fun x kd j r => aldx s 4 x kd j (fun v => nx i (pc + len) ls (v :: r) s))
    | .iastore => astx s 1 st (fun r s1 => nx i (pc + len) ls r s1)
    | .lastore => astx s 2 st (fun r s1 => nx i (pc + len) ls r s1)
    | .bastore => astx s 3 st (fun r s1 => nx i (pc + len) ls r s1)
    | .aastore => astx s 4 st (fun r s1 => nx i (pc + len) ls r s1)
    | .arraylength => op1r st (fun kd _ r => alnx s kd (fun x => nx i (pc + len) ls (.inl x :: r) s))
    | .invokestatic _ => bif Nat.beq a 999 then copyx st s (fun r s1 => nx i (pc + len) ls r s1) else bif Nat.beq a 993 then op1i st (fun x r => bif Nat.ble (cats r) 8 then nx i (pc + len) ls (.inl (if 0 ≤ x then x else 0 - x) :: r) s else none) else bif Nat.beq a 994 then op1l st (fun x r => bif Nat.ble (cats r) 8 then nx i (pc + len) ls (.inr (.inl (if 0 < x then x else -x)) :: r) s else none) else bif Nat.beq a 996 then op2i st (fun x y r => bif Nat.ble (cats r) 8 then nx i (pc + len) ls (.inl (if y < x then y else x) :: r) s else none) else callx cal a b d e (st.take b).reverse (st.drop b) s (fun r s1 => nx i (pc + len) ls r s1)
    | .invokevirtual _ => bif recvx (st.take b).reverse f then callx cal a b d e (st.take b).reverse (st.drop b) s (fun r s1 => nx i (pc + len) ls r s1) else none
    | .ireturn => retx st d s
    | .lreturn => retx st d s
    | .return_ => retx st d s
    | _ => none
