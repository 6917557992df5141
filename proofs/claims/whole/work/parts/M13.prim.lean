/-! ===== calls of the JDK's that are told as rows; the whole step ===== -/
def zPW : Prop := (Cond.static Lib.Math.max.name ∈ zGT ∧ Cond.static Lib.Math.min.name ∈ zGT ∧ Cond.static Lib.Math.abs.name ∈ zGT ∧ Cond.initialized "java/lang/Math" ∈ zGT ∧ Cond.code Lib.Math.max.name Lib.Math.max.code 2 (some .int) ∈ zGT ∧ Cond.code Lib.Math.min.name Lib.Math.min.code 2 (some .int) ∈ zGT ∧ Cond.code Lib.Math.abs.name Lib.Math.abs.code 1 (some .int) ∈ zGT) ∧
  (Cond.native arraycopyName ∈ zGT ∧ Cond.static arraycopyName ∈ zGT ∧ Cond.initialized "java/lang/System" ∈ zGT) ∧ (Cond.instanceMethod objectInit ∈ zGT ∧ Cond.code objectInit ⟨#[0xb1]⟩ 1 none ∈ zGT) ∧
  (Cond.sameMethod "[I" "java/lang/Object" "clone" "()Ljava/lang/Object;" ∈ zGT ∧ Cond.native ⟨"java/lang/Object", "clone", "()Ljava/lang/Object;"⟩ ∈ zGT ∧ Cond.instanceMethod ⟨"java/lang/Object", "clone", "()Ljava/lang/Object;"⟩ ∈ zGT ∧ Cond.selects "[I" ⟨"[I", "clone", "()Ljava/lang/Object;"⟩ ⟨"java/lang/Object", "clone", "()Ljava/lang/Object;"⟩ ∈ zGT)
/-- String.length of a constant -/
def zLenRow : Prop := ∀ (l : Launch) (p : Program) (e : Env) (R : Room) (s : State) (m : MethodId) (args : Array Value) (below : List Frame) (meth : Method) (c : Code) (H : Heap) (locs : List Loc) (cells slots : Nat) (Q : State → Prop) (ls : Array Slot) (A : Nat → Prop) (Gd : va_G) (cy : Nat → ClassId) (adK adV : Nat → Nat) (M : zM) (D pc i x : Nat) (rest : List Value),
  zC M D p R s m args meth c A Gd cy adK adV → 4 < D → va_S A s.heap H locs → ls.size = M.2.2.1 → x < 7 → (rest.map fun v => v.category).sum ≤ 8 → cells ≤ R.cells → slots ≤ R.slots → Cond.methodLink M.1.cls i yJ0_length_8abf5 ∈ zGT → decode M.2.1 pc = .ok (.invokevirtual i, 3) →
  (∀ (H1 : Heap) (locs1 : List Loc), H1 = H → va_S A s.heap H1 locs1 → W p l e R s m args below meth c H1 locs1 cells slots Q (F0 m (pc + 3) ls (.int (Int32.ofNat (zsl x)) :: rest))) → W p l e R s m args below meth c H locs cells slots Q (F0 m pc ls (.ref (adK x) :: rest))
/-- String.charAt of a constant -/
def zChRow : Prop := ∀ (l : Launch) (p : Program) (e : Env) (R : Room) (s : State) (m : MethodId) (args : Array Value) (below : List Frame) (meth : Method) (c : Code) (H : Heap) (locs : List Loc) (cells slots : Nat) (Q : State → Prop) (ls : Array Slot) (A : Nat → Prop) (Gd : va_G) (cy : Nat → ClassId) (adK adV : Nat → Nat) (M : zM) (D pc i x : Nat) (ix : Int32) (rest : List Value),
  zC M D p R s m args meth c A Gd cy adK adV → 4 < D → va_S A s.heap H locs → ls.size = M.2.2.1 → x < 7 → vp_in ix (zsl x) → (rest.map fun v => v.category).sum ≤ 8 → cells ≤ R.cells → slots ≤ R.slots → Cond.methodLink M.1.cls i yJ0_charAt_5068e ∈ zGT → decode M.2.1 pc = .ok (.invokevirtual i, 3) →
  (∀ (H1 : Heap) (locs1 : List Loc), H1 = H → va_S A s.heap H1 locs1 → W p l e R s m args below meth c H1 locs1 cells slots Q (F0 m (pc + 3) ls (.int (zch x ix.toNatClampNeg) :: rest))) → W p l e R s m args below meth c H locs cells slots Q (F0 m pc ls (.int ix :: .ref (adK x) :: rest))
section zprims
variable {G : Nat → zM} {l : Launch} {S : zO} {D j : Nat} {k : zKt} {L : zL} {st : List Value} {h : zH} {res : zR}
theorem zsub_le {a b c : Nat} (h : a ≤ b) : a - c ≤ b - c := Nat.sub_le_sub_right h c
/-- a row that leaves locals and heap, with the room at hand -/
theorem zAt_rowR {pc pc' : Nat} {st' : List Value} (hk : zAt G l D j pc' L st' h res) (hv : ∀ n, (∀ v ∈ st, zvv n v) → ∀ v ∈ st', zvv n v)
    (hrow : ∀ (p : Program) (e : Env) (R : Room) (s : State) (m : MethodId) (args : Array Value) (below : List Frame) (meth : Method) (c : Code) (H : Heap) (locs : List Loc) (cells slots : Nat) (Q : State → Prop) (ls : Array Slot) (A : Nat → Prop) (Gd : va_G) (cy : Nat → ClassId) (ad adK adV : Nat → Nat), zC (G j) D p R s m args meth c A Gd cy adK adV → va_S A s.heap H locs → ls.size = (G j).2.2.1 → cells ≤ R.cells → slots ≤ R.slots →
      (∀ (locs1 : List Loc), va_S A s.heap H locs1 → W p l e R s m args below meth c H locs1 cells slots Q (F0 m pc' ls (st'.map (ztr ad adK)))) → W p l e R s m args below meth c H locs cells slots Q (F0 m pc ls (st.map (ztr ad adK)))) : zAt G l D j pc L st h res := by
  refine ⟨hk.1, ?_⟩
  intro p e R s m args below meth c A Gd cy adK adV ad0 n0 z0 Cx hn hz hcc hss ad H locs ls ha hP hD hS hl hw hvL hvS
  refine hrow p e R s m args below meth c H locs _ _ _ ls A Gd cy ad adK adV Cx hS hl.1 (by rw [hcc]; exact zsub_le hk.1.1) (by rw [hss]; exact zsub_le hk.1.2) fun locs1 hS1 => ?_
  exact hk.2 p e R s m args below meth c A Gd cy adK adV ad0 n0 z0 Cx hn hz hcc hss ad H locs1 ls ha hP hD hS1 hl hw hvL (hv _ hvS)
theorem zAt_setR {pc pc' : Nat} {st' : List Value} {o : Nat} {h' : zH} (hk : zAt G l D j pc' L st' h' res) (hlen : h'.1.length = h.1.length) (hsz : zsz h'.1 = zsz h.1) (hv : ∀ n, (∀ v ∈ st, zvv n v) → ∀ v ∈ st', zvv n v) (hwf : zwf h → zwf h')
    (ho : ∀ j, j ≠ o → h'.1[j]? = h.1[j]? ∧ h'.2.1 j = h.2.1 j ∧ h'.2.2 j = h.2.2 j)
    (hrow : ∀ (p : Program) (e : Env) (R : Room) (s : State) (m : MethodId) (args : Array Value) (below : List Frame) (meth : Method) (c : Code) (H : Heap) (locs : List Loc) (cells slots : Nat) (Q : State → Prop) (ls : Array Slot) (A : Nat → Prop) (Gd : va_G) (cy : Nat → ClassId) (ad adK adV : Nat → Nat), zC (G j) D p R s m args meth c A Gd cy adK adV → va_P Gd vwCl (zws cy ad h) H → va_D A (zws cy ad h) → va_S A s.heap H locs → ls.size = (G j).2.2.1 →
      (∀ (H1 : Heap) (locs1 : List Loc), va_P Gd vwCl ((zws cy ad h).set o (ad o, zat cy ad h' o)) H1 → va_D A ((zws cy ad h).set o (ad o, zat cy ad h' o)) → va_S A s.heap H1 locs1 → W p l e R s m args below meth c H1 locs1 cells slots Q (F0 m pc' ls (st'.map (ztr ad adK)))) → W p l e R s m args below meth c H locs cells slots Q (F0 m pc ls (st.map (ztr ad adK)))) : zAt G l D j pc L st h res := by
  refine ⟨by rw [← hlen, ← hsz]; exact hk.1, ?_⟩
  intro p e R s m args below meth c A Gd cy adK adV ad0 n0 z0 Cx hn hz hcc hss ad H locs ls ha0 hP hD hS hl hw hvL hvS
  refine hrow p e R s m args below meth c H locs _ _ _ ls A Gd cy ad adK adV Cx hP hD hS hl.1 fun H1 locs1 hP1 hD1 hS1 => ?_
  rw [zws_set hlen rfl ho] at hP1 hD1
  have := hk.2 p e R s m args below meth c A Gd cy adK adV ad0 n0 z0 Cx (by rw [hlen]; exact hn) (by rw [hsz]; exact hz) hcc hss ad H1 locs1 ls ha0 hP1 hD1 hS1 hl (hwf hw) (fun i v q => by rw [hlen]; exact hvL i v q) (fun v q => by rw [hlen]; exact hv _ hvS v q)
  rw [hlen, hsz] at this
  exact this
theorem zrg_spec {sp n : Int32} {m : Nat} (h : zrg sp n m = true) : ¬ sp < 0 ∧ ¬ n < 0 ∧ sp.toNatClampNeg + n.toNatClampNeg ≤ m := by
  unfold zrg at h
  simp only [Bool.and_eq_true, decide_eq_true_eq] at h
  obtain ⟨⟨h1, h2⟩, h3⟩ := h
  refine ⟨fun q => ?_, fun q => ?_, ?_⟩
  · have := Int32.lt_iff_toInt_lt.mp q
    simp at this
    omega
  · have := Int32.lt_iff_toInt_lt.mp q
    simp at this
    omega
  · show sp.toInt.toNat + n.toInt.toNat ≤ m
    omega
theorem znf5 : nativeFrameWords "java/lang/System" "arraycopy" 5 + 11 ≤ 56 := by decide +kernel
set_option maxHeartbeats 4000000 in
theorem zstep_prim (hpw : zPW) (hL1 : zLenRow) (hL2 : zChRow) (IHk : ∀ pc L st h r, k pc L st h = some r → zAt G l D j pc L st h r) {e : zI} (he : zok G (G j) e) (ha : ¬ e.2.2.1 < 1000)
    (hns : match e.2.1 with
      | .invokestatic _ => True | .invokevirtual _ => True | .invokespecial _ => True | _ => False)
    (hs : zstep G S D e k L st h = some res) : zAt G l D j e.1 L st h res := by
  obtain ⟨⟨p1, p2, p3, p4, p5, p6, p7⟩, ⟨p8, p9, p10⟩, ⟨p11, p12⟩, ⟨p13, p14, p15, p16⟩⟩ := hpw
  obtain ⟨pc, ins, a, b, ks, z, zl, sw⟩ := e
  obtain ⟨hd, hlk⟩ := he
  dsimp only at ha
  have hblt : Nat.blt a 1000 = false := by
    cases hq : Nat.blt a 1000
    · rfl
    · exact absurd (Nat.le_of_ble_eq_true hq) ha
  cases ins <;> first | (exact absurd hns id; done) | skip
  all_goals (unfold zstep at hs; dsimp only at hs; rw [hblt] at hs; dsimp only at hs)
  all_goals (replace hd := hd.resolve_left (by intro q; cases q); dsimp only [zln] at hd; dsimp only [zlk] at hlk; rw [if_neg ha] at hlk)
  case invokestatic =>
    obtain ⟨hD0, hs⟩ := zi_zif hs
    have hD1 : 1 ≤ D := Nat.le_of_ble_eq_true hD0
    rcases hlk with ⟨rfl, w⟩ | ⟨rfl, w⟩ | ⟨rfl, w⟩ | ⟨rfl, w⟩
    · obtain ⟨x, y, t, rfl, hs1⟩ := zi_I2 hs
      obtain ⟨hw8, hs1⟩ := zi_zif hs1
      refine zAt_rowR (IHk _ _ _ _ _ hs1) (fun n h => zvS_cons zvv_i (zvS_tl (zvS_tl h))) ?_
      intro p e R s m args below meth c H locs cells slots Q ls A Gd cy ad adK adV Cx hS hls hc1 hs2 kk
      have hts := Cx.2.2.2.2.2.1
      exact va_mmax Cx.1 Cx.2.1 (Cx.2.2.2.1.trans hls.symm) Cx.2.2.2.2.1 (hts _ w) (hts _ p1) (hts _ p4) (hts _ p5) (Nat.le_trans hD1 Cx.2.2.2.2.2.2.2.2.2.2.1) (by have := Cx.2.2.2.2.2.2.2.2.2.2.2; have := Nat.le_of_ble_eq_true hw8; rw [zwd_sum]; omega) hc1 hs2 hd (kk _ hS)
    · obtain ⟨x, y, t, rfl, hs1⟩ := zi_I2 hs
      obtain ⟨hw8, hs1⟩ := zi_zif hs1
      refine zAt_rowR (IHk _ _ _ _ _ hs1) (fun n h => zvS_cons zvv_i (zvS_tl (zvS_tl h))) ?_
      intro p e R s m args below meth c H locs cells slots Q ls A Gd cy ad adK adV Cx hS hls hc1 hs2 kk
      have hts := Cx.2.2.2.2.2.1
      exact va_mmin Cx.1 Cx.2.1 (Cx.2.2.2.1.trans hls.symm) Cx.2.2.2.2.1 (hts _ w) (hts _ p2) (hts _ p4) (hts _ p6) (Nat.le_trans hD1 Cx.2.2.2.2.2.2.2.2.2.2.1) (by have := Cx.2.2.2.2.2.2.2.2.2.2.2; have := Nat.le_of_ble_eq_true hw8; rw [zwd_sum]; omega) hc1 hs2 hd (kk _ hS)
    · obtain ⟨x, t, rfl, hs1⟩ := zi_I1 hs
      obtain ⟨hw8, hs1⟩ := zi_zif hs1
      refine zAt_rowR (IHk _ _ _ _ _ hs1) (fun n h => zvS_cons zvv_i (zvS_tl h)) ?_
      intro p e R s m args below meth c H locs cells slots Q ls A Gd cy ad adK adV Cx hS hls hc1 hs2 kk
      have hts := Cx.2.2.2.2.2.1
      exact va_mabs Cx.1 Cx.2.1 (Cx.2.2.2.1.trans hls.symm) Cx.2.2.2.2.1 (hts _ w) (hts _ p3) (hts _ p4) (hts _ p7) (Nat.le_trans hD1 Cx.2.2.2.2.2.2.2.2.2.2.1) (by have := Cx.2.2.2.2.2.2.2.2.2.2.2; have := Nat.le_of_ble_eq_true hw8; rw [zwd_sum]; omega) hc1 hs2 hd (kk _ hS)
    · obtain ⟨q, sp, d, dp, n, t, rfl, hs1⟩ := zi_Cp hs
      obtain ⟨hw8, hs1⟩ := zi_zif hs1
      obtain ⟨n0, rf0, he0, hs1⟩ := zi_ar hs1
      obtain ⟨n1, rf1, he1, hs1⟩ := zi_ar hs1
      obtain ⟨hr1, hs1⟩ := zi_zif hs1
      obtain ⟨hr2, hs1⟩ := zi_zif hs1
      obtain ⟨g1, g2, g3⟩ := zrg_spec hr1
      obtain ⟨g4, -, g5⟩ := zrg_spec hr2
      refine zAt_setR (o := d) (IHk _ _ _ _ _ hs1) rfl rfl (fun n h => zvS_tl (zvS_tl (zvS_tl (zvS_tl (zvS_tl h))))) (fun hw => hw) (fun j hj => ⟨rfl, zrI_ne _ _ hj, rfl⟩) ?_
      intro p e R s m args below meth c H locs cells slots Q ls A Gd cy ad adK adV Cx hP hD hS hls kk
      have hts := Cx.2.2.2.2.2.1
      have hK := Cx.2.2.2.2.2.2.2.2.1.1
      refine va_copyi (ty := .int) Cx.1 Cx.2.1 (Cx.2.2.2.1.trans hls.symm) Cx.2.2.2.2.1 (hts _ w) (hts _ p8) (hts _ p9) (hts _ p10) hK hP hD hS q d 1 1 (zws_get he0) (zws_get he1) rfl rfl rfl g1 g4 g2 g3 g5 (fun _ _ => rfl) (Nat.le_trans hD1 Cx.2.2.2.2.2.2.2.2.2.2.1) (by have := Cx.2.2.2.2.2.2.2.2.2.2.2; have := Nat.le_of_ble_eq_true hw8; have := znf5; rw [zwd_sum]; omega) hd fun H1 locs1 h1 h2 h3 => kk H1 locs1 ?_ ?_ h3
      · rw [zat_I he1, zrI_row]; exact h1
      · rw [zat_I he1, zrI_row]; exact h2
  case invokevirtual =>
    obtain ⟨hD0, hs⟩ := zi_zif hs
    have hD1 : 4 < D := Nat.le_of_ble_eq_true hD0
    rcases hlk with ⟨rfl, w⟩ | ⟨rfl, w⟩ | ⟨rfl, w⟩
    · obtain ⟨x, t, rfl, hs1⟩ := zi_St hs
      obtain ⟨hx7, hs1⟩ := zi_zif hs1
      obtain ⟨hw8, hs1⟩ := zi_zif hs1
      refine zAt_rowR (IHk _ _ _ _ _ hs1) (fun n h => zvS_cons zvv_i (zvS_tl h)) ?_
      intro p e R s m args below meth c H locs cells slots Q ls A Gd cy ad adK adV Cx hS hls hc1 hs2 kk
      exact hL1 l p e R s m args below meth c H locs cells slots Q ls A Gd cy adK adV (G j) D pc _ x _ Cx hD1 hS hls (Nat.le_of_ble_eq_true hx7) (by rw [zwd_sum]; exact Nat.le_of_ble_eq_true hw8) hc1 hs2 w hd (fun H1 locs1 e1 h1 => by subst e1; exact kk _ h1)
    · obtain ⟨x, i, t, rfl, hs1⟩ := zi_Sc hs
      obtain ⟨hx7, hs1⟩ := zi_zif hs1
      obtain ⟨hw8, hs1⟩ := zi_zif hs1
      obtain ⟨hi, hs1⟩ := zi_zif hs1
      refine zAt_rowR (IHk _ _ _ _ _ hs1) (fun n h => zvS_cons zvv_i (zvS_tl (zvS_tl h))) ?_
      intro p e R s m args below meth c H locs cells slots Q ls A Gd cy ad adK adV Cx hS hls hc1 hs2 kk
      exact hL2 l p e R s m args below meth c H locs cells slots Q ls A Gd cy adK adV (G j) D pc _ x i _ Cx hD1 hS hls (Nat.le_of_ble_eq_true hx7) (zin_vp hi) (by rw [zwd_sum]; exact Nat.le_of_ble_eq_true hw8) hc1 hs2 w hd (fun H1 locs1 e1 h1 => by subst e1; exact kk _ h1)
    · obtain ⟨q, t, rfl, hs1⟩ := zi_A1 hs
      obtain ⟨hw8, hs1⟩ := zi_zif hs1
      obtain ⟨n, rf, he0, hs1⟩ := zi_ar hs1
      refine zAt_new (IHk _ _ _ _ _ hs1) rfl (fun j hj => ⟨zrI_ne _ _ (by omega), zrJ_ne _ _ (by omega)⟩) zwf_cpy (fun n h => zvS_tl h) ?_
      intro p e R s m args below meth c H locs cells slots Q ls A Gd cy ad adK adV Cx hP hD hS hls hcells hslots kk
      have hts := Cx.2.2.2.2.2.1
      have hK := Cx.2.2.2.2.2.2.2.2.1.1
      have hfc : s.vm.findClass "[I" = some (cy 1) := (hK.2 1 _ rfl).2
      have e1 : (zcpy h q n).2.1 h.1.length = h.2.1 q := zrI_row _ _ _
      have e2 : (zcpy h q n).2.2 h.1.length = fun _ => 0 := zrJ_row _ _ _
      rw [e1, e2] at kk
      refine va_clone (x := (n, .inl (h.2.1 q))) (ty := .int) Cx.1 Cx.2.1 (Cx.2.2.2.1.trans hls.symm) Cx.2.2.2.2.1 (hts _ w) (hts _ p13) (hts _ p14) (hts _ p15) (hts _ p16) Cx.2.2.2.2.2.2.2.2.1.2.1.2.1 hK hP hD hS Cx.2.2.2.2.2.2.2.2.2.1 q 1 (zws_get he0) rfl hfc ?_ (Nat.le_trans (by omega) Cx.2.2.2.2.2.2.2.2.2.2.1) (by have := Cx.2.2.2.2.2.2.2.2.2.2.2; have := Nat.le_of_ble_eq_true hw8; rw [zwd_sum]; omega) hcells hslots hd fun q2 H1 hK1 hP1 hD1 hS1 => kk q2 H1 hP1 hD1 hS1
      intro i v hv
      rw [vp_cell_i] at hv
      by_cases hi : i < n
      · rw [arrV_read _ _ hi] at hv; cases hv; rfl
      · have : (arrV (cy 1) n (fun j => Value.int (h.2.1 q j))).slots.size ≤ i := by rw [arrV_size]; omega
        rw [Array.getElem?_eq_none this] at hv; cases hv
  case invokespecial =>
    obtain ⟨hD0, hs⟩ := zi_zif hs
    have hD1 : 1 ≤ D := Nat.le_of_ble_eq_true hD0
    obtain ⟨q, t, rfl, hs1⟩ := zi_A1 hs
    obtain ⟨hw8, hs1⟩ := zi_zif hs1
    refine zAt_rowR (IHk _ _ _ _ _ hs1) (fun n h => zvS_tl h) ?_
    intro p e R s m args below meth c H locs cells slots Q ls A Gd cy ad adK adV Cx hS hls hc1 hs2 kk
    have hts := Cx.2.2.2.2.2.1
    exact W.objInit Cx.1 Cx.2.1 Cx.2.2.2.2.1 (hts _ hlk) (hts _ p11) (hts _ p12) rfl (hls.trans Cx.2.2.2.1.symm) rfl hd (Nat.le_trans hD1 Cx.2.2.2.2.2.2.2.2.2.2.1) (Nat.le_trans (Nat.add_le_add_right (lv_room (by rw [zwd_sum]; exact Nat.le_of_ble_eq_true hw8)) 12) (by have := Cx.2.2.2.2.2.2.2.2.2.2.2; omega)) (kk _ hS)
end zprims
/-- THE WHOLE STEP -/
theorem zstep_ok {G : Nat → zM} {l : Launch} {S : zO} {D j : Nat} {k : zKt} {L : zL} {st : List Value} {h : zH} {res : zR} (hcl : zclOK) (hdf : zclDF) (harr : ∀ ty ∈ [FieldType.byte, .int, .long, .boolean], Cond.arrayClass ty ∈ zGT) (hpw : zPW) (hL1 : zLenRow) (hL2 : zChRow)
    (IHS : ∀ D' j' pc L st h r, S D' j' pc L st h = some r → zAt G l D' j' pc L st h r) (IHk : ∀ pc L st h r, k pc L st h = some r → zAt G l D j pc L st h r) {e : zI} (he : zok G (G j) e) (hs : zstep G S D e k L st h = some res) : zAt G l D j e.1 L st h res := by
  obtain ⟨pc, ins, a, b, ks, z, zl, sw⟩ := e
  cases ins <;> first
    | exact zstep_get hcl IHk he hs
    | exact zstep_put hcl IHk he hs
    | exact zstep_arr IHk he trivial hs
    | exact zstep_new hcl hdf IHk harr he trivial hs
    | exact zstep_ret IHk he trivial hs
    | (by_cases ha : a < 1000
       · exact zstep_inv IHS IHk he ha trivial hs
       · exact zstep_prim hpw hL1 hL2 IHk he ha trivial hs)
    | exact zstep_row IHk he trivial hs
/-- a good program -/
def zgood (G : Nat → zM) : Prop := ∀ j, ∀ e ∈ (G j).2.2.2.2.1, zok G (G j) e
theorem zfind_mem : ∀ {c : List zI} {pc : Nat} {e : zI}, zfind c pc = some e → e ∈ c ∧ e.1 = pc
  | [], _, _, h => by cases h
  | x :: r, pc, e, h => by
    unfold zfind at h
    split at h
    · rename_i hc; cases h; exact ⟨List.mem_cons_self, Nat.eq_of_beq_eq_true hc⟩
    · obtain ⟨h1, h2⟩ := zfind_mem h; exact ⟨List.mem_cons_of_mem _ h1, h2⟩
theorem zAt_mask {G : Nat → zM} {l : Launch} {D j pc : Nat} {L : zL} {st : List Value} {h : zH} {res : zR} (m : List Bool) (hk : zAt G l D j pc (zmask m L) st h res) : zAt G l D j pc L st h res := by
  refine ⟨hk.1, ?_⟩
  intro p e R s ms args below meth c A Gd cy adK adV ad0 n0 z0 C hn hz hc hs ad H locs ls ha hP hD hS hl hw hvL hvS
  exact hk.2 p e R s ms args below meth c A Gd cy adK adV ad0 n0 z0 C hn hz hc hs ad H locs ls ha hP hD hS (zhas_mask m hl) hw (fun i v hv => hvL i v (zmask_get m L i v hv)) hvS
/-- SOUND: what the pure run answers, the machine does -/
theorem zsound {G : Nat → zM} (l : Launch) (hg : zgood G) (hcl : zclOK) (hdf : zclDF) (harr : ∀ ty ∈ [FieldType.byte, .int, .long, .boolean], Cond.arrayClass ty ∈ zGT) (hpw : zPW) (hL1 : zLenRow) (hL2 : zChRow) : ∀ D j pc L st h r, zS G D j pc L st h = some r → zAt G l D j pc L st h r := by
  refine zS_ind G (fun D j pc L st h r => zAt G l D j pc L st h r) ?_
  intro S IHS D j
  have key : ∀ (f pc : Nat) (L : zL) (st : List Value) (h : zH) (r : zR), zx G S D j (G j) f pc L st h = some r → zAt G l D j pc L st h r := by
    intro f
    induction f with
    | zero => intro pc L st h r hs; cases hs
    | succ f ih =>
      intro pc L st h r hs
      unfold zx at hs
      split at hs
      · cases hs
      · rename_i e he
        obtain ⟨hm, rfl⟩ := zfind_mem he
        refine zstep_ok hcl hdf harr hpw hL1 hL2 IHS ?_ (hg j e hm) hs
        intro pc' L' st' h' r' hk
        split at hk
        · rename_i bm _; exact zAt_mask bm (IHS _ _ _ _ _ _ _ hk)
        · exact ih _ _ _ _ _ hk
  exact key 400
