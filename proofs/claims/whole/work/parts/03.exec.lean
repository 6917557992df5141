/-! ===== AN INTERPRETER OF THE BYTECODE, PURE: references are numbers of cells (ids), a heap is a list of shapes and two tables of numbers ===== -/
/-- a cell's shape: its kind (0 to 11: the class's place in vwCl; 12 byte, 13 int, 14 long, 15 boolean, 16 Rule, 17 World arrays), its length, its references -/
abbrev zE : Type := Nat × Nat × (Nat → Option Nat)
abbrev zTI : Type := Nat → Nat → Int32
abbrev zTJ : Type := Nat → Nat → Int64
/-- shapes, ints (also bytes and booleans), longs -/
abbrev zH : Type := List zE × zTI × zTJ
abbrev zL : Type := List (Option Value)
abbrev zR : Type := Option Value × zH
/-- an instruction with what it means: pc, instruction, two numbers, kinds, an int, a long, a switch's rows -/
abbrev zI : Type := Nat × Instr × Nat × Nat × List Nat × Int32 × Int64 × List (Int32 × Nat)
/-- a method: its name, bytes, locals, return type; its instructions; its cuts (pc, which locals live); its height: base, way; whether shapes stay -/
abbrev zM : Type := MethodName × ByteArray × Nat × Option FieldType × List zI × List (Nat × List Bool) × Nat × Nat × Bool
/-- what is asked of another activation, or at a cut: height, method, pc, locals, stack, heap -/
abbrev zO : Type := Nat → Nat → Nat → zL → List Value → zH → Option zR
abbrev zKt : Type := Nat → zL → List Value → zH → Option zR
/-- an int table with one place changed -/
def zsI (I : zTI) (a k : Nat) (v : Int32) : zTI := fun i => bif Nat.beq i a then (fun j => bif Nat.beq j k then v else I i j) else I i
def zsJ (J : zTJ) (a k : Nat) (v : Int64) : zTJ := fun i => bif Nat.beq i a then (fun j => bif Nat.beq j k then v else J i j) else J i
/-- an int table with one row changed -/
def zrI (I : zTI) (a : Nat) (f : Nat → Int32) : zTI := fun i => bif Nat.beq i a then f else I i
def zrJ (J : zTJ) (a : Nat) (f : Nat → Int64) : zTJ := fun i => bif Nat.beq i a then f else J i
/-- references told as a list -/
def zls (l : List (Option Nat)) : Nat → Option Nat := fun k => (l[k]?).getD none
def zno : Nat → Option Nat := fun _ => none
def zup (f : Nat → Option Nat) (k : Nat) (v : Option Nat) : Nat → Option Nat := fun j => bif Nat.beq j k then v else f j
/-- a place within a row -/
def zin (i : Int32) (n : Nat) : Bool := decide (0 ≤ i.toInt) && decide (i.toInt < n)
/-- what must hold -/
def zif (c : Bool) (x : Option zR) : Option zR := match c with
  | true => x
  | false => none
def zbo (v : Int32) : Bool := decide (v = 0) || decide (v = 1)
def zhas1 : List Nat → Nat → Bool
  | [], _ => false
  | a :: l, k => bif Nat.beq a k then true else zhas1 l k
/-- an object of one of some kinds -/
def zob (h : zH) (a : Nat) (ks : List Nat) (f : (Nat → Option Nat) → Option zR) : Option zR := match h.1[a]? with
  | some e => match zhas1 ks e.1 with
    | true => f e.2.2
    | false => none
  | none => none
/-- an array of a kind -/
def zar (h : zH) (a : Nat) (kd : Nat) (f : Nat → (Nat → Option Nat) → Option zR) : Option zR := match h.1[a]? with
  | some e => match Nat.beq e.1 kd with
    | true => f e.2.1 e.2.2
    | false => none
  | none => none
/-- an array of either of two kinds -/
def zar2 (h : zH) (a : Nat) (k1 k2 : Nat) (f : Nat → Option zR) (g : Nat → Option zR) : Option zR := match h.1[a]? with
  | some e => match Nat.beq e.1 k1 with
    | true => f e.2.1
    | false => match Nat.beq e.1 k2 with
      | true => g e.2.1
      | false => none
  | none => none
/-- an array of any kind: its length -/
def zal (h : zH) (a : Nat) (f : Nat → Option zR) : Option zR := match h.1[a]? with
  | some e => match Nat.ble 12 e.1 with
    | true => f e.2.1
    | false => none
  | none => none
def zrf (r : Option Nat) (f : Nat → Option zR) (g : Option zR) : Option zR := match r with
  | some a => f a
  | none => g
/-- locals -/
def zlI (L : zL) (i : Nat) (f : Int32 → Option zR) : Option zR := match L[i]? with
  | some (some (.int x)) => f x
  | _ => none
def zlJ (L : zL) (i : Nat) (f : Int64 → Option zR) : Option zR := match L[i]? with
  | some (some (.long x)) => f x
  | _ => none
def zlA (L : zL) (i : Nat) (f : Value → Option zR) : Option zR := match L[i]? with
  | some (some (.ref x)) => f (.ref x)
  | some (some .null) => f .null
  | some (some (.retAddr x)) => f (.retAddr x)
  | _ => none
/-- a value of two slots ahead of one that is overwritten is lost -/
def zkill (L : zL) (i : Nat) : zL := match i with
  | 0 => L
  | j + 1 => match L[j]? with
    | some (some (.long _)) => L.set j none
    | some (some (.double _)) => L.set j none
    | _ => L
def zst1 (L : zL) (i : Nat) (v : Value) : zL := (zkill L i).set i (some v)
def zst2 (L : zL) (i : Nat) (v : Value) : zL := ((zkill L i).set i (some v)).set (i + 1) none
/-- the stack -/
def zI1 (st : List Value) (f : Int32 → List Value → Option zR) : Option zR := match st with
  | .int x :: r => f x r
  | _ => none
def zI2 (st : List Value) (f : Int32 → Int32 → List Value → Option zR) : Option zR := match st with
  | .int y :: .int x :: r => f x y r
  | _ => none
def zJ1 (st : List Value) (f : Int64 → List Value → Option zR) : Option zR := match st with
  | .long x :: r => f x r
  | _ => none
def zJ2 (st : List Value) (f : Int64 → Int64 → List Value → Option zR) : Option zR := match st with
  | .long y :: .long x :: r => f x y r
  | _ => none
def zJI (st : List Value) (f : Int64 → Int32 → List Value → Option zR) : Option zR := match st with
  | .int y :: .long x :: r => f x y r
  | _ => none
def zA1 (st : List Value) (f : Nat → List Value → Option zR) : Option zR := match st with
  | .ref x :: r => f x r
  | _ => none
/-- an index and an array -/
def zIA (st : List Value) (f : Nat → Int32 → List Value → Option zR) : Option zR := match st with
  | .int i :: .ref a :: r => f a i r
  | _ => none
def zV1 (st : List Value) (f : Value → List Value → Option zR) : Option zR := match st with
  | v :: r => match v with
    | .long _ => none
    | .double _ => none
    | v => f v r
  | [] => none
def zV2 (st : List Value) (f : Value → Value → List Value → Option zR) (g : Value → List Value → Option zR) : Option zR := match st with
  | .long x :: r => g (.long x) r
  | .int y :: .int x :: r => f (.int y) (.int x) r
  | .int y :: .ref x :: r => f (.int y) (.ref x) r
  | _ => none
def zN1 (st : List Value) (f : List Value → Option zR) (g : List Value → Option zR) : Option zR := match st with
  | .null :: r => f r
  | .ref _ :: r => g r
  | _ => none
/-- a value of a field's sort (0 int, 1 long, 2 reference, 3 boolean) and an object -/
def zPut (st : List Value) (t : Nat) (f : Nat → Value → List Value → Option zR) : Option zR := match st with
  | .int v :: .ref a :: r => match t with
    | 0 => f a (.int v) r
    | 3 => zif (zbo v) (f a (.int v) r)
    | _ => none
  | .long v :: .ref a :: r => match t with
    | 1 => f a (.long v) r
    | _ => none
  | .ref v :: .ref a :: r => match t with
    | 2 => f a (.ref v) r
    | _ => none
  | .null :: .ref a :: r => match t with
    | 2 => f a .null r
    | _ => none
  | _ => none
def zpop : Nat → List Value → List Value → (List Value → List Value → Option zR) → Option zR
  | 0, acc, st, f => f acc st
  | n + 1, acc, v :: st, f => zpop n (v :: acc) st f
  | _ + 1, _, [], _ => none
/-- the words of what stays below a call -/
def zwd : List Value → Nat
  | [] => 0
  | v :: r => v.category + zwd r
/-- the receiver of a call -/
def zrc (h : zH) (args : List Value) (ks : List Nat) (x : Option zR) : Option zR := match args with
  | .ref a :: _ => zob h a ks (fun _ => x)
  | _ => none
/-- what comes back: shapes as they were -/
noncomputable def zkI (o : Option zR) (sh : List zE) (k : Int32 → zTI → zTJ → Option zR) : Option zR := match o with
  | some (some (.int r), h) => @ite _ (h.1 = sh) (Classical.propDecidable _) (k r h.2.1 h.2.2) none
  | _ => none
noncomputable def zkJ (o : Option zR) (sh : List zE) (k : Int64 → zTI → zTJ → Option zR) : Option zR := match o with
  | some (some (.long r), h) => @ite _ (h.1 = sh) (Classical.propDecidable _) (k r h.2.1 h.2.2) none
  | _ => none
noncomputable def zkV (o : Option zR) (sh : List zE) (k : zTI → zTJ → Option zR) : Option zR := match o with
  | some (none, h) => @ite _ (h.1 = sh) (Classical.propDecidable _) (k h.2.1 h.2.2) none
  | _ => none
/-- what comes back: other shapes -/
def zcI (o : Option zR) (k : Int32 → zH → Option zR) : Option zR := match o with
  | some (some (.int r), h) => k r h
  | _ => none
def zcJ (o : Option zR) (k : Int64 → zH → Option zR) : Option zR := match o with
  | some (some (.long r), h) => k r h
  | _ => none
def zcV (o : Option zR) (k : zH → Option zR) : Option zR := match o with
  | some (none, h) => k h
  | _ => none
def zcA (o : Option zR) (k : Nat → zH → Option zR) : Option zR := match o with
  | some (some (.ref r), h) => k r h
  | _ => none
/-- the locals at a method's entry -/
def zar0 : List Value → zL
  | [] => []
  | v :: r => match v with
    | .long x => some (.long x) :: none :: zar0 r
    | .double x => some (.double x) :: none :: zar0 r
    | v => some v :: zar0 r
def zpad : Nat → zL → zL
  | 0, _ => []
  | n + 1, [] => none :: zpad n []
  | n + 1, v :: r => v :: zpad n r
def zmask : List Bool → zL → zL
  | b :: m, v :: r => (match b with | true => v | false => none) :: zmask m r
  | _, _ => []
def zfind : List zI → Nat → Option zI
  | [], _ => none
  | e :: r, pc => match Nat.beq e.1 pc with
    | true => some e
    | false => zfind r pc
def zcut : List (Nat × List Bool) → Nat → Option (List Bool)
  | [], _ => none
  | e :: r, pc => match Nat.beq e.1 pc with
    | true => some e.2
    | false => zcut r pc
def zswi (x : Int32) : List (Int32 × Nat) → Nat → (Nat → Option zR) → Option zR
  | [], d, k => k d
  | (c, t) :: r, d, k => if x = c then k t else zswi x r d k
/-- the argument at a place as a number -/
def zan (args : List Value) (i : Nat) : Int32 := match args[i]? with
  | some (.int x) => x
  | _ => 0
/-- how many calls may stand open above an activation -/
def zht (M : zM) (args : List Value) : Nat := match M.2.2.2.2.2.2.2.1 with
  | 0 => M.2.2.2.2.2.2.1
  | 1 => M.2.2.2.2.2.2.1 + (zan args 1 + 1).toNatClampNeg
  | n + 2 => M.2.2.2.2.2.2.1 + 2 * (n - (zan args 1).toNatClampNeg)
