/-! ===== what an instruction's own numbers must be ===== -/
def zln (i : Instr) : Nat := match i with
  | .bipush _ => 2 | .sipush _ => 3 | .ldc _ => 2 | .ldc_w _ => 3 | .ldc2_w _ => 3
  | .iload _ => 2 | .lload _ => 2 | .aload _ => 2 | .istore _ => 2 | .lstore _ => 2 | .astore _ => 2 | .iinc _ _ => 3
  | .goto _ => 3 | .ifCond _ _ => 3 | .if_icmp _ _ => 3 | .ifnull _ => 3 | .ifnonnull _ => 3
  | .getfield _ => 3 | .putfield _ => 3 | .new _ => 3 | .newarray _ => 2 | .anewarray _ => 3 | .checkcast _ => 3
  | .invokestatic _ => 3 | .invokevirtual _ => 3 | .invokespecial _ => 3
  | _ => 1
/-- a callee as the tables have it -/
def zcal (M : zM) (n : Nat) : Prop := Cond.code M.1 M.2.1 M.2.2.1 M.2.2.2.1 ∈ zGT ∧ Cond.initialized M.1.cls ∈ zGT ∧ (M.1.cls ≠ "java/lang/invoke/MethodHandle" ∧ M.1.cls ≠ "java/lang/invoke/VarHandle" ∧ (parseMethodDescriptor M.1.desc).map (fun d => d.parameters.length) = some n)
/-- a field of kind c at place k, of sort t, under the link i -/
def zfl (own : String) (i k t c : Nat) : Prop := ∃ (C : String) (T : u_T) (N : Nat) (ref : String), vwCl[c]? = some (C, T, N) ∧ k < N ∧ Cond.fieldLink own i ref (T k).2.1 (T k).2.2.1 ∈ zGT ∧ (ref = (T k).1 ∨ Cond.sameField ref (T k).1 (T k).2.1 (T k).2.2.1 ∈ zGT) ∧
  (match t with
   | 1 => zTy c k = .long
   | 2 => (∃ n, zTy c k = .object n) ∨ ∃ n, zTy c k = .array n
   | 3 => zTy c k = .boolean
   | _ => zTy c k = .int)
def zfp (own : String) (nm : String) (k z c : Nat) : Prop := ∃ (C : String) (T : u_T) (N : Nat), vwCl[c]? = some (C, T, N) ∧ ((T k).2.2.2 = false ∨ ((T k).2.2.2 = true ∧ nm = "<init>" ∧ (T k).1 = own))
def zsk (pc : Nat) (d lo hi : Int) (offs : Array Int) (a : Nat) (sw : List (Int32 × Nat)) : Prop := (pc : Int) + d = (a : Int) ∧ hi = lo + (sw.length : Int) - 1 ∧ ∀ (i : Nat) (q : Int32 × Nat), sw[i]? = some q → q.1.toInt = lo + (i : Int) ∧ ∃ o, offs[i]? = some o ∧ (pc : Int) + o = (q.2 : Int)
/-- the links -/
def zlk (G : Nat → zM) (M : zM) (e : zI) : Prop := match e with
  | (pc, ins, a, b, ks, z, zl, sw) => match ins with
    | .iconst n => Int32.ofInt n = z
    | .bipush n => (Int8.ofInt n).toInt32 = z
    | .sipush n => (Int16.ofInt n).toInt32 = z
    | .lconst n => Int64.ofNat n.val = zl
    | .iinc i n => Int32.ofInt n = z ∧ i < M.2.2.1
    | .istore i => i < M.2.2.1
    | .istore_n i => i.val < M.2.2.1
    | .astore i => i < M.2.2.1
    | .astore_n i => i.val < M.2.2.1
    | .lstore i => i + 1 < M.2.2.1
    | .lstore_n i => i.val + 1 < M.2.2.1
    | .ldc i => match b with
      | 0 => Cond.constant M.1.cls i z ∈ zGT
      | _ => ∃ t, zStr[a]? = some (M.1.cls, i, t)
    | .ldc_w i => Cond.constant M.1.cls i z ∈ zGT
    | .ldc2_w i => Cond.constantLong M.1.cls i zl ∈ zGT
    | .goto o => (pc : Int) + o = (a : Int)
    | .ifCond _ o => (pc : Int) + o = (a : Int)
    | .if_icmp _ o => (pc : Int) + o = (a : Int)
    | .ifnull o => (pc : Int) + o = (a : Int)
    | .ifnonnull o => (pc : Int) + o = (a : Int)
    | .tableswitch d lo hi offs => (∃ n, decode M.2.1 pc = .ok (.tableswitch d lo hi offs, n)) ∧ zsk pc d lo hi offs a sw
    | .getfield i => ∀ c ∈ ks, zfl M.1.cls i a b c
    | .putfield i => (∀ c ∈ ks, zfl M.1.cls i a b c) ∧ ∀ c ∈ ks, zfp M.1.cls M.1.name a 0 c
    | .new i => ∃ C T N, vwCl[a]? = some (C, T, N) ∧ Cond.classLink M.1.cls i C ∈ zGT ∧ Cond.instantiable C N ∈ zGT ∧ Cond.initialized C ∈ zGT
    | .newarray t => (a = 12 ∧ t = .byte) ∨ (a = 13 ∧ t = .int) ∨ (a = 14 ∧ t = .long) ∨ (a = 15 ∧ t = .boolean)
    | .anewarray i => (a = 16 ∧ Cond.classLink M.1.cls i RX7 ∈ zGT) ∨ (a = 17 ∧ Cond.classLink M.1.cls i RX10 ∈ zGT)
    | .checkcast i => Cond.classLink M.1.cls i "[I" ∈ zGT
    | .invokestatic i => if a < 1000 then Cond.methodLink M.1.cls i (G a).1 ∈ zGT ∧ Cond.static (G a).1 ∈ zGT ∧ zcal (G a) b ∧ (G a).2.2.1 ≤ 45 ∧ plainName (G a).1.cls = true
      else (a = 1000 ∧ Cond.methodLink M.1.cls i Lib.Math.max.name ∈ zGT) ∨ (a = 1001 ∧ Cond.methodLink M.1.cls i Lib.Math.min.name ∈ zGT) ∨ (a = 1002 ∧ Cond.methodLink M.1.cls i Lib.Math.abs.name ∈ zGT) ∨ (a = 1003 ∧ Cond.methodLink M.1.cls i arraycopyName ∈ zGT)
    | .invokevirtual i => if a < 1000 then (∀ c ∈ ks, ∃ r x, vwCl[c]? = some r ∧ Cond.methodLink M.1.cls i x ∈ zGT ∧ Cond.instanceMethod (G a).1 ∈ zGT ∧ Cond.selects r.1 x (G a).1 ∈ zGT ∧ ((x = (G a).1 ∧ b ≥ 1) ∨ ((G a).1 = ⟨(G a).1.cls, x.name, x.desc⟩ ∧ Cond.sameMethod x.cls (G a).1.cls x.name x.desc ∈ zGT))) ∧ zcal (G a) (b - 1) ∧ 1 ≤ b ∧ (G a).2.2.1 ≤ 45 ∧ plainName (G a).1.cls = true
      else (a = 1004 ∧ Cond.methodLink M.1.cls i yJ0_length_8abf5 ∈ zGT) ∨ (a = 1005 ∧ Cond.methodLink M.1.cls i yJ0_charAt_5068e ∈ zGT) ∨ (a = 1007 ∧ Cond.methodLink M.1.cls i ⟨"[I", "clone", "()Ljava/lang/Object;"⟩ ∈ zGT)
    | .invokespecial i => if a < 1000 then (G a).1.name = "<init>" ∧ (G a).2.2.2.1 = none ∧ (Cond.methodLink M.1.cls i (G a).1 ∈ zGT ∨ ∃ host, Cond.methodLinkNest M.1.cls i (G a).1 host ∈ lw_tbl) ∧ Cond.instanceMethod (G a).1 ∈ zGT ∧ zcal (G a) (b - 1) ∧ 1 ≤ b ∧ (G a).2.2.1 ≤ 45 ∧ plainName (G a).1.cls = true
      else Cond.methodLink M.1.cls i objectInit ∈ zGT
    | .ireturn => match b with
      | 3 => M.2.2.2.1 = some .boolean
      | _ => M.2.2.2.1 = some .int
    | .lreturn => M.2.2.2.1 = some .long
    | .areturn => (∃ n, M.2.2.2.1 = some (.object n)) ∨ ∃ n, M.2.2.2.1 = some (.array n)
    | .return_ => M.2.2.2.1 = none
    | _ => True
def zsw? (i : Instr) : Bool := match i with
  | .tableswitch _ _ _ _ => true
  | _ => false
def zok (G : Nat → zM) (M : zM) (e : zI) : Prop := (zsw? e.2.1 = true ∨ decode M.2.1 e.1 = .ok (e.2.1, zln e.2.1)) ∧ zlk G M e
section zstepA
variable {G : Nat → zM} {l : Launch} {S : zO} {D j : Nat} {k : zKt} {L : zL} {st : List Value} {h : zH} {res : zR}
theorem zvS_cons {n : Nat} {v : Value} {st : List Value} (h1 : zvv n v) (h : ∀ v ∈ st, zvv n v) : ∀ w ∈ v :: st, zvv n w := fun w hw => by
  rcases List.mem_cons.mp hw with rfl | hw
  · exact h1
  · exact h w hw
theorem zvS_tl {n : Nat} {v : Value} {st : List Value} (h : ∀ w ∈ v :: st, zvv n w) : ∀ w ∈ st, zvv n w := fun w hw => h w (List.mem_cons_of_mem _ hw)
theorem zvS_hd {n : Nat} {v : Value} {st : List Value} (h : ∀ w ∈ v :: st, zvv n w) : zvv n v := h v List.mem_cons_self
set_option maxHeartbeats 4000000 in
/-- constants, locals, arithmetic, stack, branches -/
theorem zstep_row (IHk : ∀ pc L st h r, k pc L st h = some r → zAt G l D j pc L st h r) {e : zI} (he : zok G (G j) e)
    (hns : match e.2.1 with
      | .getfield _ => False | .putfield _ => False | .iaload => False | .baload => False | .laload => False | .aaload => False | .iastore => False | .bastore => False | .lastore => False | .aastore => False | .arraylength => False | .new _ => False | .newarray _ => False | .anewarray _ => False | .checkcast _ => False
      | .invokestatic _ => False | .invokevirtual _ => False | .invokespecial _ => False | .ireturn => False | .lreturn => False | .areturn => False | .return_ => False | .tableswitch _ _ _ _ => False | _ => True)
    (hs : zstep G S D e k L st h = some res) : zAt G l D j e.1 L st h res := by
  obtain ⟨pc, ins, a, b, ks, z, zl, sw⟩ := e
  obtain ⟨hd, hlk⟩ := he
  cases ins <;> first | (exact absurd hns id; done) | skip
  all_goals (unfold zstep at hs; dsimp only at hs)
  all_goals first | (cases hs; done) | skip
  all_goals (replace hd := hd.resolve_left (by intro q; cases q); dsimp only [zln] at hd; dsimp only [zlk] at hlk)
  case aconst_null => exact zAt_row (IHk _ _ _ _ _ hs) (fun n _ h => zvS_cons zvv_n h) (fun p e R s m args below meth c H locs cells slots Q ls ad adK hx hb hown hts _ hl kk => lv_null hx hb hd kk)
  case iconst => exact zAt_row (IHk _ _ _ _ _ hs) (fun n _ h => zvS_cons zvv_i h) (fun p e R s m args below meth c H locs cells slots Q ls ad adK hx hb hown hts _ hl kk => lv_iconst hx hb hd hlk kk)
  case bipush => exact zAt_row (IHk _ _ _ _ _ hs) (fun n _ h => zvS_cons zvv_i h) (fun p e R s m args below meth c H locs cells slots Q ls ad adK hx hb hown hts _ hl kk => lv_bipush hx hb hd hlk kk)
  case sipush => exact zAt_row (IHk _ _ _ _ _ hs) (fun n _ h => zvS_cons zvv_i h) (fun p e R s m args below meth c H locs cells slots Q ls ad adK hx hb hown hts _ hl kk => lv_sipush hx hb hd hlk kk)
  case lconst => exact zAt_row (IHk _ _ _ _ _ hs) (fun n _ h => zvS_cons zvv_l h) (fun p e R s m args below meth c H locs cells slots Q ls ad adK hx hb hown hts _ hl kk => lv_lconst hx hb hd hlk kk)
  case ldc =>
    split at hs
    · exact zAt_row (IHk _ _ _ _ _ hs) (fun n _ h => zvS_cons zvv_i h) (fun p e R s m args below meth c H locs cells slots Q ls ad adK hx hb hown hts _ hl kk => lv_ldc hx hb hown (hts _ hlk) hd kk)
    · rename_i hb0
      obtain ⟨-, hs⟩ := zi_zif hs
      split at hlk
      · exact absurd rfl (hb0 ·)
      · obtain ⟨t, ht⟩ := hlk
        exact zAt_row (IHk _ _ _ _ _ hs) (fun n _ h => zvS_cons zvv_s h) (fun p e R s m args below meth c H locs cells slots Q ls ad adK hx hb hown hts hR hl kk => va_ldcS hx hb hown (hR _ _ ht) hd kk)
  case ldc_w => exact zAt_row (IHk _ _ _ _ _ hs) (fun n _ h => zvS_cons zvv_i h) (fun p e R s m args below meth c H locs cells slots Q ls ad adK hx hb hown hts _ hl kk => lv_ldcw hx hb hown (hts _ hlk) hd kk)
  case ldc2_w => exact zAt_row (IHk _ _ _ _ _ hs) (fun n _ h => zvS_cons zvv_l h) (fun p e R s m args below meth c H locs cells slots Q ls ad adK hx hb hown hts _ hl kk => lv_ldc2 hx hb hown (hts _ hlk) hd kk)
  case iload => obtain ⟨x, hx0, hs⟩ := zi_lI hs; exact zAt_row (IHk _ _ _ _ _ hs) (fun n _ h => zvS_cons zvv_i h) (fun p e R s m args below meth c H locs cells slots Q ls ad adK hx hb hown hts _ hl kk => lv_iload hx hb hd (hl _ _ hx0) kk)
  case iload_n => obtain ⟨x, hx0, hs⟩ := zi_lI hs; exact zAt_row (IHk _ _ _ _ _ hs) (fun n _ h => zvS_cons zvv_i h) (fun p e R s m args below meth c H locs cells slots Q ls ad adK hx hb hown hts _ hl kk => lv_iload_n hx hb hd rfl (hl _ _ hx0) kk)
  case lload => obtain ⟨x, hx0, hs⟩ := zi_lJ hs; exact zAt_row (IHk _ _ _ _ _ hs) (fun n _ h => zvS_cons zvv_l h) (fun p e R s m args below meth c H locs cells slots Q ls ad adK hx hb hown hts _ hl kk => lv_lload hx hb hd (hl _ _ hx0) kk)
  case lload_n => obtain ⟨x, hx0, hs⟩ := zi_lJ hs; exact zAt_row (IHk _ _ _ _ _ hs) (fun n _ h => zvS_cons zvv_l h) (fun p e R s m args below meth c H locs cells slots Q ls ad adK hx hb hown hts _ hl kk => lv_lload_n hx hb hd rfl (hl _ _ hx0) kk)
  case aload =>
    obtain ⟨x, hx0, hs, hq⟩ := zi_lA hs
    rcases hq with ⟨q, rfl⟩ | rfl | ⟨q, rfl⟩
    · exact zAt_row (IHk _ _ _ _ _ hs) (fun n hL h => zvS_cons (hL _ _ hx0) h) (fun p e R s m args below meth c H locs cells slots Q ls ad adK hx hb hown hts _ hl kk => lv_aload hx hb hd (hl _ _ hx0) kk)
    · exact zAt_row (IHk _ _ _ _ _ hs) (fun n hL h => zvS_cons zvv_n h) (fun p e R s m args below meth c H locs cells slots Q ls ad adK hx hb hown hts _ hl kk => lv_aloadN hx hb hd (hl _ _ hx0) kk)
    · exact zAt_row (IHk _ _ _ _ _ hs) (fun n hL h => zvS_cons zvv_s h) (fun p e R s m args below meth c H locs cells slots Q ls ad adK hx hb hown hts _ hl kk => lv_aload hx hb hd (hl _ _ hx0) kk)
  case aload_n =>
    obtain ⟨x, hx0, hs, hq⟩ := zi_lA hs
    rcases hq with ⟨q, rfl⟩ | rfl | ⟨q, rfl⟩
    · exact zAt_row (IHk _ _ _ _ _ hs) (fun n hL h => zvS_cons (hL _ _ hx0) h) (fun p e R s m args below meth c H locs cells slots Q ls ad adK hx hb hown hts _ hl kk => lv_aload_n hx hb hd rfl (hl _ _ hx0) kk)
    · exact zAt_row (IHk _ _ _ _ _ hs) (fun n hL h => zvS_cons zvv_n h) (fun p e R s m args below meth c H locs cells slots Q ls ad adK hx hb hown hts _ hl kk => lv_aload_nN hx hb hd rfl (hl _ _ hx0) kk)
    · exact zAt_row (IHk _ _ _ _ _ hs) (fun n hL h => zvS_cons zvv_s h) (fun p e R s m args below meth c H locs cells slots Q ls ad adK hx hb hown hts _ hl kk => lv_aload_n hx hb hd rfl (hl _ _ hx0) kk)
  case istore => obtain ⟨x, t, rfl, hs⟩ := zi_I1 hs; exact zAt_st1 (IHk _ _ _ _ _ hs) hlk (fun n _ h => ⟨zvv_i, zvS_tl h⟩) (fun p e R s m args below meth c H locs cells slots Q ls ad adK hx hb hh hl hi kk => lv_istore hx hb hd hl hi rfl kk)
  case istore_n => obtain ⟨x, t, rfl, hs⟩ := zi_I1 hs; exact zAt_st1 (IHk _ _ _ _ _ hs) hlk (fun n _ h => ⟨zvv_i, zvS_tl h⟩) (fun p e R s m args below meth c H locs cells slots Q ls ad adK hx hb hh hl hi kk => lv_istore_n hx hb hd rfl hl hi rfl kk)
  case lstore => obtain ⟨x, t, rfl, hs⟩ := zi_J1 hs; exact zAt_st2 (IHk _ _ _ _ _ hs) hlk (fun n h => ⟨zvv_l, zvS_tl h⟩) (fun p e R s m args below meth c H locs cells slots Q ls ad adK hx hb hl kk => lv_lstore hx hb hd hl hlk rfl kk)
  case lstore_n => obtain ⟨x, t, rfl, hs⟩ := zi_J1 hs; exact zAt_st2 (IHk _ _ _ _ _ hs) hlk (fun n h => ⟨zvv_l, zvS_tl h⟩) (fun p e R s m args below meth c H locs cells slots Q ls ad adK hx hb hl kk => lv_lstore_n hx hb hd rfl hl hlk rfl kk)
  case astore =>
    obtain ⟨x, t, rfl, hq, hs⟩ := zi_As hs
    rcases hq with ⟨q, rfl⟩ | rfl
    · exact zAt_st1 (IHk _ _ _ _ _ hs) hlk (fun n _ h => ⟨zvS_hd h, zvS_tl h⟩) (fun p e R s m args below meth c H locs cells slots Q ls ad adK hx hb hh hl hi kk => lv_astore hx hb hd hl hi rfl kk)
    · exact zAt_st1 (IHk _ _ _ _ _ hs) hlk (fun n _ h => ⟨zvS_hd h, zvS_tl h⟩) (fun p e R s m args below meth c H locs cells slots Q ls ad adK hx hb hh hl hi kk => lv_astoreN hx hb hd hl hi rfl kk)
  case astore_n =>
    obtain ⟨x, t, rfl, hq, hs⟩ := zi_As hs
    rcases hq with ⟨q, rfl⟩ | rfl
    · exact zAt_st1 (IHk _ _ _ _ _ hs) hlk (fun n _ h => ⟨zvS_hd h, zvS_tl h⟩) (fun p e R s m args below meth c H locs cells slots Q ls ad adK hx hb hh hl hi kk => lv_astore_n hx hb hd rfl hl hi rfl kk)
    · exact zAt_st1 (IHk _ _ _ _ _ hs) hlk (fun n _ h => ⟨zvS_hd h, zvS_tl h⟩) (fun p e R s m args below meth c H locs cells slots Q ls ad adK hx hb hh hl hi kk => lv_astore_nN hx hb hd rfl hl hi rfl kk)
  case iinc =>
    rename_i i0 n0
    obtain ⟨x, hx0, hs⟩ := zi_lI hs
    refine zAt_st1 (IHk _ _ _ _ _ hs) hlk.2 (fun n _ h => ⟨zvv_i, h⟩) (fun p e R s m args below meth c H locs cells slots Q ls ad adK hx hb hh hl hi kk => ?_)
    have hm := zpl_in (ad := ad) (adK := adK) L 0 i0 _ hx0
    rw [Nat.zero_add] at hm
    obtain ⟨kq, hkq⟩ := List.getElem?_of_mem hm
    exact lv_iinc (v := x + z) hx hb hd hl (k := kq) hkq (by rw [hlk.1]) hi rfl kk
  case iadd => obtain ⟨x, y, t, rfl, hs⟩ := zi_I2 hs; exact zAt_row (IHk _ _ _ _ _ hs) (fun n _ h => zvS_cons zvv_i (zvS_tl (zvS_tl h))) (fun p e R s m args below meth c H locs cells slots Q ls ad adK hx hb hown hts _ hl kk => lv_iadd hx hb hd kk)
  case isub => obtain ⟨x, y, t, rfl, hs⟩ := zi_I2 hs; exact zAt_row (IHk _ _ _ _ _ hs) (fun n _ h => zvS_cons zvv_i (zvS_tl (zvS_tl h))) (fun p e R s m args below meth c H locs cells slots Q ls ad adK hx hb hown hts _ hl kk => lv_isub hx hb hd kk)
  case imul => obtain ⟨x, y, t, rfl, hs⟩ := zi_I2 hs; exact zAt_row (IHk _ _ _ _ _ hs) (fun n _ h => zvS_cons zvv_i (zvS_tl (zvS_tl h))) (fun p e R s m args below meth c H locs cells slots Q ls ad adK hx hb hown hts _ hl kk => lv_imul hx hb hd kk)
  case iand => obtain ⟨x, y, t, rfl, hs⟩ := zi_I2 hs; exact zAt_row (IHk _ _ _ _ _ hs) (fun n _ h => zvS_cons zvv_i (zvS_tl (zvS_tl h))) (fun p e R s m args below meth c H locs cells slots Q ls ad adK hx hb hown hts _ hl kk => lv_iand hx hb hd kk)
  case ior => obtain ⟨x, y, t, rfl, hs⟩ := zi_I2 hs; exact zAt_row (IHk _ _ _ _ _ hs) (fun n _ h => zvS_cons zvv_i (zvS_tl (zvS_tl h))) (fun p e R s m args below meth c H locs cells slots Q ls ad adK hx hb hown hts _ hl kk => lv_ior hx hb hd kk)
  case ixor => obtain ⟨x, y, t, rfl, hs⟩ := zi_I2 hs; exact zAt_row (IHk _ _ _ _ _ hs) (fun n _ h => zvS_cons zvv_i (zvS_tl (zvS_tl h))) (fun p e R s m args below meth c H locs cells slots Q ls ad adK hx hb hown hts _ hl kk => lv_ixor hx hb hd kk)
  case idiv =>
    obtain ⟨x, y, t, rfl, hs1⟩ := zi_I2 hs
    split at hs1
    · cases hs1
    · rename_i hne
      exact zAt_row (IHk _ _ _ _ _ hs1) (fun n _ h => zvS_cons zvv_i (zvS_tl (zvS_tl h))) (fun p e R s m args below meth c H locs cells slots Q ls ad adK hx hb hown hts _ hl kk => lv_idiv hx hb hd hne kk)
  case irem =>
    obtain ⟨x, y, t, rfl, hs1⟩ := zi_I2 hs
    split at hs1
    · cases hs1
    · rename_i hne
      exact zAt_row (IHk _ _ _ _ _ hs1) (fun n _ h => zvS_cons zvv_i (zvS_tl (zvS_tl h))) (fun p e R s m args below meth c H locs cells slots Q ls ad adK hx hb hown hts _ hl kk => lv_irem hx hb hd hne kk)
  case ineg => obtain ⟨x, t, rfl, hs⟩ := zi_I1 hs; exact zAt_row (IHk _ _ _ _ _ hs) (fun n _ h => zvS_cons zvv_i (zvS_tl h)) (fun p e R s m args below meth c H locs cells slots Q ls ad adK hx hb hown hts _ hl kk => lv_ineg hx hb hd kk)
  case ishl => obtain ⟨x, y, t, rfl, hs⟩ := zi_I2 hs; exact zAt_row (IHk _ _ _ _ _ hs) (fun n _ h => zvS_cons zvv_i (zvS_tl (zvS_tl h))) (fun p e R s m args below meth c H locs cells slots Q ls ad adK hx hb hown hts _ hl kk => lv_ishl hx hb hd kk)
  case ishr => obtain ⟨x, y, t, rfl, hs⟩ := zi_I2 hs; exact zAt_row (IHk _ _ _ _ _ hs) (fun n _ h => zvS_cons zvv_i (zvS_tl (zvS_tl h))) (fun p e R s m args below meth c H locs cells slots Q ls ad adK hx hb hown hts _ hl kk => lv_ishr hx hb hd kk)
  case ladd => obtain ⟨x, y, t, rfl, hs⟩ := zi_J2 hs; exact zAt_row (IHk _ _ _ _ _ hs) (fun n _ h => zvS_cons zvv_l (zvS_tl (zvS_tl h))) (fun p e R s m args below meth c H locs cells slots Q ls ad adK hx hb hown hts _ hl kk => lv_ladd hx hb hd kk)
  case lsub => obtain ⟨x, y, t, rfl, hs⟩ := zi_J2 hs; exact zAt_row (IHk _ _ _ _ _ hs) (fun n _ h => zvS_cons zvv_l (zvS_tl (zvS_tl h))) (fun p e R s m args below meth c H locs cells slots Q ls ad adK hx hb hown hts _ hl kk => lv_lsub hx hb hd kk)
  case lmul => obtain ⟨x, y, t, rfl, hs⟩ := zi_J2 hs; exact zAt_row (IHk _ _ _ _ _ hs) (fun n _ h => zvS_cons zvv_l (zvS_tl (zvS_tl h))) (fun p e R s m args below meth c H locs cells slots Q ls ad adK hx hb hown hts _ hl kk => lv_lmul hx hb hd kk)
  case land => obtain ⟨x, y, t, rfl, hs⟩ := zi_J2 hs; exact zAt_row (IHk _ _ _ _ _ hs) (fun n _ h => zvS_cons zvv_l (zvS_tl (zvS_tl h))) (fun p e R s m args below meth c H locs cells slots Q ls ad adK hx hb hown hts _ hl kk => lv_land hx hb hd kk)
  case lor => obtain ⟨x, y, t, rfl, hs⟩ := zi_J2 hs; exact zAt_row (IHk _ _ _ _ _ hs) (fun n _ h => zvS_cons zvv_l (zvS_tl (zvS_tl h))) (fun p e R s m args below meth c H locs cells slots Q ls ad adK hx hb hown hts _ hl kk => lv_lor hx hb hd kk)
  case ldiv =>
    obtain ⟨x, y, t, rfl, hs1⟩ := zi_J2 hs
    split at hs1
    · cases hs1
    · rename_i hne
      exact zAt_row (IHk _ _ _ _ _ hs1) (fun n _ h => zvS_cons zvv_l (zvS_tl (zvS_tl h))) (fun p e R s m args below meth c H locs cells slots Q ls ad adK hx hb hown hts _ hl kk => lv_ldiv hx hb hd hne kk)
  case lrem =>
    obtain ⟨x, y, t, rfl, hs1⟩ := zi_J2 hs
    split at hs1
    · cases hs1
    · rename_i hne
      exact zAt_row (IHk _ _ _ _ _ hs1) (fun n _ h => zvS_cons zvv_l (zvS_tl (zvS_tl h))) (fun p e R s m args below meth c H locs cells slots Q ls ad adK hx hb hown hts _ hl kk => lv_lrem hx hb hd hne kk)
  case lshl => obtain ⟨x, y, t, rfl, hs⟩ := zi_JI hs; exact zAt_row (IHk _ _ _ _ _ hs) (fun n _ h => zvS_cons zvv_l (zvS_tl (zvS_tl h))) (fun p e R s m args below meth c H locs cells slots Q ls ad adK hx hb hown hts _ hl kk => lv_lshl hx hb hd rfl kk)
  case lcmp => obtain ⟨x, y, t, rfl, hs⟩ := zi_J2 hs; exact zAt_row (IHk _ _ _ _ _ hs) (fun n _ h => zvS_cons zvv_i (zvS_tl (zvS_tl h))) (fun p e R s m args below meth c H locs cells slots Q ls ad adK hx hb hown hts _ hl kk => W.lcmp hx hb hd kk)
  case i2l => obtain ⟨x, t, rfl, hs⟩ := zi_I1 hs; exact zAt_row (IHk _ _ _ _ _ hs) (fun n _ h => zvS_cons zvv_l (zvS_tl h)) (fun p e R s m args below meth c H locs cells slots Q ls ad adK hx hb hown hts _ hl kk => lv_i2l hx hb hd rfl kk)
  case l2i => obtain ⟨x, t, rfl, hs⟩ := zi_J1 hs; exact zAt_row (IHk _ _ _ _ _ hs) (fun n _ h => zvS_cons zvv_i (zvS_tl h)) (fun p e R s m args below meth c H locs cells slots Q ls ad adK hx hb hown hts _ hl kk => lv_l2i hx hb hd rfl kk)
  case i2b => obtain ⟨x, t, rfl, hs⟩ := zi_I1 hs; exact zAt_row (IHk _ _ _ _ _ hs) (fun n _ h => zvS_cons zvv_i (zvS_tl h)) (fun p e R s m args below meth c H locs cells slots Q ls ad adK hx hb hown hts _ hl kk => lv_i2b hx hb hd rfl kk)
  case dup => obtain ⟨v, t, rfl, hc, hs⟩ := zi_V1 hs; exact zAt_row (IHk _ _ _ _ _ hs) (fun n _ h => zvS_cons (zvS_hd h) h) (fun p e R s m args below meth c H locs cells slots Q ls ad adK hx hb hown hts _ hl kk => lv_dup hx hb hd (by rw [ztr_cat]; exact hc) kk)
  case pop => obtain ⟨v, t, rfl, hc, hs⟩ := zi_V1 hs; exact zAt_row (IHk _ _ _ _ _ hs) (fun n _ h => zvS_tl h) (fun p e R s m args below meth c H locs cells slots Q ls ad adK hx hb hown hts _ hl kk => lv_pop hx hb hd (by rw [ztr_cat]; exact hc) kk)
  case dup2 =>
    rcases zi_V2 hs with ⟨v, w, t, rfl, h1, h2, hs⟩ | ⟨v, t, rfl, h1, hs⟩
    · exact zAt_row (IHk _ _ _ _ _ hs) (fun n _ h => zvS_cons (zvS_hd h) (zvS_cons (zvS_hd (zvS_tl h)) h)) (fun p e R s m args below meth c H locs cells slots Q ls ad adK hx hb hown hts _ hl kk => lv_dup2_11 hx hb hd (by rw [ztr_cat]; exact h1) (by rw [ztr_cat]; exact h2) kk)
    · exact zAt_row (IHk _ _ _ _ _ hs) (fun n _ h => zvS_cons (zvS_hd h) h) (fun p e R s m args below meth c H locs cells slots Q ls ad adK hx hb hown hts _ hl kk => lv_dup2_2 hx hb hd (by rw [ztr_cat]; exact h1) kk)
  case goto => exact zAt_row (IHk _ _ _ _ _ hs) (fun n _ h => h) (fun p e R s m args below meth c H locs cells slots Q ls ad adK hx hb hown hts _ hl kk => lv_goto hx hb hd hlk kk)
  case ifCond =>
    obtain ⟨x, t, rfl, hs1⟩ := zi_I1 hs
    clear hs; split at hs1 <;> split at hs1 <;> rename_i hc <;> refine zAt_row (IHk _ _ _ _ _ hs1) (fun n _ h => zvS_tl h) (fun p e R s m args below meth c H locs cells slots Q ls ad adK hx hb hown hts _ hl kk => ?_)
    · exact lv_if_eq hx hb hd hlk (fun _ => kk) (fun q => absurd hc q)
    · exact lv_if_eq hx hb hd hlk (fun q => absurd q hc) (fun _ => kk)
    · exact lv_if_ne hx hb hd hlk (fun q => absurd hc q) (fun _ => kk)
    · exact lv_if_ne hx hb hd hlk (fun _ => kk) (fun q => absurd q hc)
    · exact lv_if_lt hx hb hd hlk (fun _ => kk) (fun q => absurd hc q)
    · exact lv_if_lt hx hb hd hlk (fun q => absurd q hc) (fun _ => kk)
    · exact lv_if_ge hx hb hd hlk (fun q => absurd hc (Int32.not_lt.mpr q)) (fun _ => kk)
    · exact lv_if_ge hx hb hd hlk (fun _ => kk) (fun q => absurd (Int32.not_lt.mp hc) q)
    · exact lv_if_gt hx hb hd hlk (fun _ => kk) (fun q => absurd hc q)
    · exact lv_if_gt hx hb hd hlk (fun q => absurd q hc) (fun _ => kk)
    · exact lv_if_le hx hb hd hlk (fun q => absurd hc (Int32.not_lt.mpr q)) (fun _ => kk)
    · exact lv_if_le hx hb hd hlk (fun _ => kk) (fun q => absurd (Int32.not_lt.mp hc) q)
  case if_icmp =>
    obtain ⟨x, y, t, rfl, hs1⟩ := zi_I2 hs
    clear hs; split at hs1 <;> split at hs1 <;> rename_i hc <;> refine zAt_row (IHk _ _ _ _ _ hs1) (fun n _ h => zvS_tl (zvS_tl h)) (fun p e R s m args below meth c H locs cells slots Q ls ad adK hx hb hown hts _ hl kk => ?_)
    · exact lv_icmp_eq hx hb hd hlk (fun _ => kk) (fun q => absurd hc q)
    · exact lv_icmp_eq hx hb hd hlk (fun q => absurd q hc) (fun _ => kk)
    · exact lv_icmp_ne hx hb hd hlk (fun q => absurd hc q) (fun _ => kk)
    · exact lv_icmp_ne hx hb hd hlk (fun _ => kk) (fun q => absurd q hc)
    · exact lv_icmp_lt hx hb hd hlk (fun _ => kk) (fun q => absurd hc q)
    · exact lv_icmp_lt hx hb hd hlk (fun q => absurd q hc) (fun _ => kk)
    · exact lv_icmp_ge hx hb hd hlk (fun q => absurd hc (Int32.not_lt.mpr q)) (fun _ => kk)
    · exact lv_icmp_ge hx hb hd hlk (fun _ => kk) (fun q => absurd (Int32.not_lt.mp hc) q)
    · exact lv_icmp_gt hx hb hd hlk (fun _ => kk) (fun q => absurd hc q)
    · exact lv_icmp_gt hx hb hd hlk (fun q => absurd q hc) (fun _ => kk)
    · exact lv_icmp_le hx hb hd hlk (fun q => absurd hc (Int32.not_lt.mpr q)) (fun _ => kk)
    · exact lv_icmp_le hx hb hd hlk (fun _ => kk) (fun q => absurd (Int32.not_lt.mp hc) q)
  case ifnull =>
    rcases zi_N1 hs with ⟨t, rfl, hs⟩ | ⟨q, t, rfl, hs⟩
    · exact zAt_row (IHk _ _ _ _ _ hs) (fun n _ h => zvS_tl h) (fun p e R s m args below meth c H locs cells slots Q ls ad adK hx hb hown hts _ hl kk => lv_ifnullN hx hb hd hlk kk)
    · exact zAt_row (IHk _ _ _ _ _ hs) (fun n _ h => zvS_tl h) (fun p e R s m args below meth c H locs cells slots Q ls ad adK hx hb hown hts _ hl kk => lv_ifnull hx hb hd kk)
  case ifnonnull =>
    rcases zi_N1 hs with ⟨t, rfl, hs⟩ | ⟨q, t, rfl, hs⟩
    · exact zAt_row (IHk _ _ _ _ _ hs) (fun n _ h => zvS_tl h) (fun p e R s m args below meth c H locs cells slots Q ls ad adK hx hb hown hts _ hl kk => lv_ifnonnullN hx hb hd kk)
    · exact zAt_row (IHk _ _ _ _ _ hs) (fun n _ h => zvS_tl h) (fun p e R s m args below meth c H locs cells slots Q ls ad adK hx hb hown hts _ hl kk => lv_ifnonnull hx hb hd hlk kk)
end zstepA
