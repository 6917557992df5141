/-! ===== one instruction; runs between cuts; the least fixed point ===== -/
def zAs (st : List Value) (f : Value → List Value → Option zR) : Option zR := match st with
  | .ref x :: r => f (.ref x) r
  | .null :: r => f .null r
  | _ => none
/-- a value, an index, an array -/
def zVA (st : List Value) (f : Nat → Int32 → Int32 → List Value → Option zR) : Option zR := match st with
  | .int x :: .int i :: .ref a :: r => f a i x r
  | _ => none
def zWA (st : List Value) (f : Nat → Int32 → Int64 → List Value → Option zR) : Option zR := match st with
  | .long x :: .int i :: .ref a :: r => f a i x r
  | _ => none
def zQA (st : List Value) (f : Nat → Int32 → Nat → List Value → Option zR) : Option zR := match st with
  | .ref x :: .int i :: .ref a :: r => f a i x r
  | _ => none
/-- the operands of arraycopy -/
def zCp (st : List Value) (f : Nat → Int32 → Nat → Int32 → Int32 → List Value → Option zR) : Option zR := match st with
  | .int n :: .int dp :: .ref d :: .int sp :: .ref a :: r => f a sp d dp n r
  | _ => none
def zSt (st : List Value) (f : Nat → List Value → Option zR) : Option zR := match st with
  | .retAddr x :: r => f x r
  | _ => none
def zSc (st : List Value) (f : Nat → Int32 → List Value → Option zR) : Option zR := match st with
  | .int i :: .retAddr x :: r => f x i r
  | _ => none
def zrg (sp n : Int32) (m : Nat) : Bool := decide (0 ≤ sp.toInt) && decide (0 ≤ n.toInt) && decide (sp.toInt + n.toInt ≤ m)
def zsR (sh : List zE) (o k : Nat) (v : Option Nat) : List zE := match sh[o]? with
  | some e => sh.set o (e.1, e.2.1, zup e.2.2 k v)
  | none => sh
/-- a new cell -/
def znew (h : zH) (kd n : Nat) : zH := (h.1 ++ [(kd, n, zno)], zrI h.2.1 h.1.length (fun _ => 0), zrJ h.2.2 h.1.length (fun _ => 0))
def zcpy (h : zH) (a n : Nat) : zH := (h.1 ++ [(13, n, zno)], zrI h.2.1 h.1.length (h.2.1 a), zrJ h.2.2 h.1.length (fun _ => 0))
/-- the String constants -/
def zSb : List (List Int32) := [[98, 97, 114, 103, 101, 32, 98, 111, 111, 107, 32, 115, 116, 111, 112, 32, 114, 101, 97, 100, 101, 114, 32, 119, 105, 115, 104, 32, 104, 111, 108, 101],
  [108, 101, 110, 100, 32, 102, 101, 116, 99, 104, 32, 115, 104, 105, 102, 116],
  [98, 111, 111, 107, 32, 119, 101, 105, 103, 104, 116, 32, 115, 104, 101, 108, 102, 32, 119, 111, 114, 116, 104, 32, 100, 97, 109, 112, 32, 119, 105, 115, 104, 32, 115, 116, 111, 112, 32, 100, 101, 112, 116, 104, 32, 100, 114, 97, 117, 103, 104, 116, 32, 119, 97, 116, 101, 114, 32, 108, 111, 97, 110, 115, 32, 100, 97, 121],
  [105, 102], [110, 111, 116], [97, 110, 100], [111, 114]]
def zsl (x : Nat) : Nat := (zSb.getD x []).length
def zch (x k : Nat) : Int32 := (zSb.getD x []).getD k 0
/-- another activation -/
def zask (G : Nat → zM) (S : zO) (D j : Nat) (args : List Value) (h : zH) : Option zR := match Nat.blt (zht (G j) args) D && Nat.ble (zar0 args).length (G j).2.2.1 with
  | true => S (zht (G j) args) j 0 (zpad (G j).2.2.1 (zar0 args)) [] h
  | false => none
noncomputable def zback (G : Nat → zM) (j : Nat) (o : Option zR) (h : zH) (f : List Value → zH → Option zR) : Option zR := match (G j).2.2.2.2.2.2.2.2 with
  | true => match (G j).2.2.2.1 with
    | none => zkV o h.1 (fun I J => f [] (h.1, I, J))
    | some .int => zkI o h.1 (fun r I J => f [.int r] (h.1, I, J))
    | some .boolean => zkI o h.1 (fun r I J => f [.int r] (h.1, I, J))
    | some .long => zkJ o h.1 (fun r I J => f [.long r] (h.1, I, J))
    | _ => none
  | false => match (G j).2.2.2.1 with
    | none => zcV o (fun h' => f [] h')
    | some .int => zcI o (fun r h' => f [.int r] h')
    | some .boolean => zcI o (fun r h' => f [.int r] h')
    | some .long => zcJ o (fun r h' => f [.long r] h')
    | some (.object _) => zcA o (fun r h' => f [.ref r] h')
    | some (.array _) => zcA o (fun r h' => f [.ref r] h')
    | _ => none
/-- a static call -/
noncomputable def zinvS (G : Nat → zM) (S : zO) (D j n : Nat) (st : List Value) (h : zH) (f : List Value → zH → Option zR) : Option zR :=
  zpop n [] st fun args r => zif (Nat.ble (zwd r) 8) (zback G j (zask G S D j args h) h (fun v h' => f (v ++ r) h'))
/-- a call with a receiver -/
noncomputable def zinvV (G : Nat → zM) (S : zO) (D j n : Nat) (ks : List Nat) (st : List Value) (h : zH) (f : List Value → zH → Option zR) : Option zR :=
  zpop n [] st fun args r => zif (Nat.ble (zwd r) 8) (zrc h args ks (zback G j (zask G S D j args h) h (fun v h' => f (v ++ r) h')))
noncomputable def zstep (G : Nat → zM) (S : zO) (D : Nat) (e : zI) (k : zKt) (L : zL) (st : List Value) (h : zH) : Option zR :=
  match e with
  | (pc, ins, a, b, ks, z, zl, sw) =>
  match ins with
  | .aconst_null => k (pc + 1) L (.null :: st) h
  | .iconst _ => k (pc + 1) L (.int z :: st) h
  | .bipush _ => k (pc + 2) L (.int z :: st) h
  | .sipush _ => k (pc + 3) L (.int z :: st) h
  | .lconst _ => k (pc + 1) L (.long zl :: st) h
  | .ldc _ => match b with
    | 0 => k (pc + 2) L (.int z :: st) h
    | _ => zif (Nat.blt a 7) (k (pc + 2) L (.retAddr a :: st) h)
  | .ldc_w _ => k (pc + 3) L (.int z :: st) h
  | .ldc2_w _ => k (pc + 3) L (.long zl :: st) h
  | .iload i => zlI L i fun x => k (pc + 2) L (.int x :: st) h
  | .iload_n i => zlI L i.val fun x => k (pc + 1) L (.int x :: st) h
  | .lload i => zlJ L i fun x => k (pc + 2) L (.long x :: st) h
  | .lload_n i => zlJ L i.val fun x => k (pc + 1) L (.long x :: st) h
  | .aload i => zlA L i fun x => k (pc + 2) L (x :: st) h
  | .aload_n i => zlA L i.val fun x => k (pc + 1) L (x :: st) h
  | .istore i => zI1 st fun x r => k (pc + 2) (zst1 L i (.int x)) r h
  | .istore_n i => zI1 st fun x r => k (pc + 1) (zst1 L i.val (.int x)) r h
  | .lstore i => zJ1 st fun x r => k (pc + 2) (zst2 L i (.long x)) r h
  | .lstore_n i => zJ1 st fun x r => k (pc + 1) (zst2 L i.val (.long x)) r h
  | .astore i => zAs st fun x r => k (pc + 2) (zst1 L i x) r h
  | .astore_n i => zAs st fun x r => k (pc + 1) (zst1 L i.val x) r h
  | .iinc i _ => zlI L i fun x => k (pc + 3) (zst1 L i (.int (x + z))) st h
  | .iadd => zI2 st fun x y r => k (pc + 1) L (.int (x + y) :: r) h
  | .isub => zI2 st fun x y r => k (pc + 1) L (.int (x - y) :: r) h
  | .imul => zI2 st fun x y r => k (pc + 1) L (.int (x * y) :: r) h
  | .iand => zI2 st fun x y r => k (pc + 1) L (.int (x &&& y) :: r) h
  | .ior => zI2 st fun x y r => k (pc + 1) L (.int (x ||| y) :: r) h
  | .ixor => zI2 st fun x y r => k (pc + 1) L (.int (x ^^^ y) :: r) h
  | .idiv => zI2 st fun x y r => if y = 0 then none else k (pc + 1) L (.int (x / y) :: r) h
  | .irem => zI2 st fun x y r => if y = 0 then none else k (pc + 1) L (.int (x - x / y * y) :: r) h
  | .ineg => zI1 st fun x r => k (pc + 1) L (.int (-x) :: r) h
  | .ishl => zI2 st fun x y r => k (pc + 1) L (.int (x <<< (y &&& 31)) :: r) h
  | .ishr => zI2 st fun x y r => k (pc + 1) L (.int (x >>> (y &&& 31)) :: r) h
  | .ladd => zJ2 st fun x y r => k (pc + 1) L (.long (x + y) :: r) h
  | .lsub => zJ2 st fun x y r => k (pc + 1) L (.long (x - y) :: r) h
  | .lmul => zJ2 st fun x y r => k (pc + 1) L (.long (x * y) :: r) h
  | .land => zJ2 st fun x y r => k (pc + 1) L (.long (x &&& y) :: r) h
  | .lor => zJ2 st fun x y r => k (pc + 1) L (.long (x ||| y) :: r) h
  | .ldiv => zJ2 st fun x y r => if y = 0 then none else k (pc + 1) L (.long (x / y) :: r) h
  | .lrem => zJ2 st fun x y r => if y = 0 then none else k (pc + 1) L (.long (x - x / y * y) :: r) h
  | .lshl => zJI st fun x y r => k (pc + 1) L (.long (x <<< (y.toInt64 &&& 63)) :: r) h
  | .lcmp => zJ2 st fun x y r => k (pc + 1) L (.int (lg_cmp x y) :: r) h
  | .i2l => zI1 st fun x r => k (pc + 1) L (.long x.toInt64 :: r) h
  | .l2i => zJ1 st fun x r => k (pc + 1) L (.int x.toInt32 :: r) h
  | .i2b => zI1 st fun x r => k (pc + 1) L (.int x.toInt8.toInt32 :: r) h
  | .dup => zV1 st fun v r => k (pc + 1) L (v :: v :: r) h
  | .pop => zV1 st fun _ r => k (pc + 1) L r h
  | .dup2 => zV2 st (fun v w r => k (pc + 1) L (v :: w :: v :: w :: r) h) (fun v r => k (pc + 1) L (v :: v :: r) h)
  | .goto _ => k a L st h
  | .ifCond c _ => zI1 st fun x r => match c with
    | .eq => if x = 0 then k a L r h else k (pc + 3) L r h
    | .ne => if x = 0 then k (pc + 3) L r h else k a L r h
    | .lt => if x < 0 then k a L r h else k (pc + 3) L r h
    | .ge => if x < 0 then k (pc + 3) L r h else k a L r h
    | .gt => if 0 < x then k a L r h else k (pc + 3) L r h
    | .le => if 0 < x then k (pc + 3) L r h else k a L r h
  | .if_icmp c _ => zI2 st fun x y r => match c with
    | .eq => if x = y then k a L r h else k (pc + 3) L r h
    | .ne => if x = y then k (pc + 3) L r h else k a L r h
    | .lt => if x < y then k a L r h else k (pc + 3) L r h
    | .ge => if x < y then k (pc + 3) L r h else k a L r h
    | .gt => if y < x then k a L r h else k (pc + 3) L r h
    | .le => if y < x then k (pc + 3) L r h else k a L r h
  | .ifnull _ => zN1 st (fun r => k a L r h) (fun r => k (pc + 3) L r h)
  | .ifnonnull _ => zN1 st (fun r => k (pc + 3) L r h) (fun r => k a L r h)
  | .tableswitch _ _ _ _ => zI1 st fun x r => zswi x sw a (fun t => k t L r h)
  | .getfield _ => zA1 st fun o r => zob h o ks fun rf => match b with
    | 1 => k (pc + 3) L (.long (h.2.2 o a) :: r) h
    | 2 => zrf (rf a) (fun v => k (pc + 3) L (.ref v :: r) h) (k (pc + 3) L (.null :: r) h)
    | _ => k (pc + 3) L (.int (h.2.1 o a) :: r) h
  | .putfield _ => zPut st b fun o v r => zob h o ks fun _ => match v with
    | .int x => k (pc + 3) L r (h.1, zsI h.2.1 o a x, h.2.2)
    | .long x => k (pc + 3) L r (h.1, h.2.1, zsJ h.2.2 o a x)
    | .ref x => k (pc + 3) L r (zsR h.1 o a (some x), h.2.1, h.2.2)
    | .null => k (pc + 3) L r (zsR h.1 o a none, h.2.1, h.2.2)
    | _ => none
  | .iaload => zIA st fun q i r => zar h q 13 fun n _ => zif (zin i n) (k (pc + 1) L (.int (h.2.1 q i.toNatClampNeg) :: r) h)
  | .baload => zIA st fun q i r => zar2 h q 12 15 (fun n => zif (zin i n) (k (pc + 1) L (.int (h.2.1 q i.toNatClampNeg) :: r) h)) (fun n => zif (zin i n) (k (pc + 1) L (.int (h.2.1 q i.toNatClampNeg) :: r) h))
  | .laload => zIA st fun q i r => zar h q 14 fun n _ => zif (zin i n) (k (pc + 1) L (.long (h.2.2 q i.toNatClampNeg) :: r) h)
  | .aaload => zIA st fun q i r => zif (zhas1 [16, 17] a) (zar h q a fun n rf => zif (zin i n) (zrf (rf i.toNatClampNeg) (fun v => k (pc + 1) L (.ref v :: r) h) (k (pc + 1) L (.null :: r) h)))
  | .iastore => zVA st fun q i x r => zar h q 13 fun n _ => zif (zin i n) (k (pc + 1) L r (h.1, zsI h.2.1 q i.toNatClampNeg x, h.2.2))
  | .bastore => zVA st fun q i x r => zar2 h q 12 15 (fun n => zif (zin i n) (k (pc + 1) L r (h.1, zsI h.2.1 q i.toNatClampNeg x.toInt8.toInt32, h.2.2))) (fun n => zif (zin i n) (zif (zbo x) (k (pc + 1) L r (h.1, zsI h.2.1 q i.toNatClampNeg x, h.2.2))))
  | .lastore => zWA st fun q i x r => zar h q 14 fun n _ => zif (zin i n) (k (pc + 1) L r (h.1, h.2.1, zsJ h.2.2 q i.toNatClampNeg x))
  | .aastore => zQA st fun q i x r => zif (zhas1 [16, 17] a) (zar h q a fun n _ => zob h x [match a with | 16 => 7 | _ => 9] fun _ => zif (zin i n) (k (pc + 1) L r (zsR h.1 q i.toNatClampNeg (some x), h.2.1, h.2.2)))
  | .arraylength => zA1 st fun q r => zal h q fun n => k (pc + 1) L (.int (Int32.ofNat n) :: r) h
  | .new _ => zif (Nat.blt a 12) (k (pc + 3) L (.ref h.1.length :: st) (znew h a 0))
  | .newarray _ => zI1 st fun n r => zif (zhas1 [12, 13, 14, 15] a) (zif (zin n 100000) (k (pc + 2) L (.ref h.1.length :: r) (znew h a n.toNatClampNeg)))
  | .anewarray _ => zI1 st fun n r => zif (zhas1 [16, 17] a) (zif (zin n 100000) (k (pc + 3) L (.ref h.1.length :: r) (znew h a n.toNatClampNeg)))
  | .checkcast _ => zA1 st fun q r => zar h q 13 fun _ _ => k (pc + 3) L (.ref q :: r) h
  | .invokestatic _ => match Nat.blt a 1000 with
    | true => zinvS G S D a b st h (fun st' h' => k (pc + 3) L st' h')
    | false => zif (Nat.blt 0 D) (match Nat.sub a 1000 with
      | 0 => zI2 st fun x y r => zif (Nat.ble (zwd r) 8) (k (pc + 3) L (.int (if x < y then y else x) :: r) h)
      | 1 => zI2 st fun x y r => zif (Nat.ble (zwd r) 8) (k (pc + 3) L (.int (if y < x then y else x) :: r) h)
      | 2 => zI1 st fun x r => zif (Nat.ble (zwd r) 8) (k (pc + 3) L (.int (if 0 ≤ x then x else 0 - x) :: r) h)
      | 3 => zCp st fun q sp d dp n r => zif (Nat.ble (zwd r) 8) (zar h q 13 fun n0 _ => zar h d 13 fun n1 _ => zif (zrg sp n n0) (zif (zrg dp n n1) (k (pc + 3) L r (h.1, zrI h.2.1 d (va_cpy (h.2.1 q) (h.2.1 d) sp.toNatClampNeg dp.toNatClampNeg n.toNatClampNeg), h.2.2))))
      | _ => none)
  | .invokevirtual _ => match Nat.blt a 1000 with
    | true => zinvV G S D a b ks st h (fun st' h' => k (pc + 3) L st' h')
    | false => zif (Nat.blt 4 D) (match Nat.sub a 1000 with
      | 4 => zSt st fun x r => zif (Nat.blt x 7) (zif (Nat.ble (zwd r) 8) (k (pc + 3) L (.int (Int32.ofNat (zsl x)) :: r) h))
      | 5 => zSc st fun x i r => zif (Nat.blt x 7) (zif (Nat.ble (zwd r) 8) (zif (zin i (zsl x)) (k (pc + 3) L (.int (zch x i.toNatClampNeg) :: r) h)))
      | 7 => zA1 st fun q r => zif (Nat.ble (zwd r) 8) (zar h q 13 fun n _ => k (pc + 3) L (.ref h.1.length :: r) (zcpy h q n))
      | _ => none)
  | .invokespecial _ => match Nat.blt a 1000 with
    | true => zinvV G S D a b ks st h (fun st' h' => k (pc + 3) L st' h')
    | false => zif (Nat.blt 0 D) (zA1 st fun _ r => zif (Nat.ble (zwd r) 8) (k (pc + 3) L r h))
  | .ireturn => match st with
    | [.int v] => match b with
      | 3 => zif (zbo v) (some (some (.int v), h))
      | _ => some (some (.int v), h)
    | _ => none
  | .lreturn => match st with
    | [.long v] => some (some (.long v), h)
    | _ => none
  | .areturn => match st with
    | [.ref v] => some (some (.ref v), h)
    | _ => none
  | .return_ => match st with
    | [] => some (none, h)
    | _ => none
  | _ => none
noncomputable def zx (G : Nat → zM) (S : zO) (D j : Nat) (M : zM) : Nat → zKt
  | 0, _, _, _, _ => none
  | f + 1, pc, L, st, h => match zfind M.2.2.2.2.1 pc with
    | none => none
    | some e => zstep G S D e (fun pc' L' st' h' => match zcut M.2.2.2.2.2.1 pc' with
      | some bm => S D j pc' (zmask bm L') st' h'
      | none => zx G S D j M f pc' L' st' h') L st h
noncomputable def zF (G : Nat → zM) (S : zO) : zO := fun D j pc L st h => zx G S D j (G j) 400 pc L st h
