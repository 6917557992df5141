/-! ===== what is known at the law's entry ===== -/
def zTm (i : Nat) : Term := .string (zStr.getD i ("", 0, "")).1 (zStr.getD i ("", 0, "")).2.1
def zND : List Cond := (List.range 7).flatMap fun i => [Cond.exactly (zTm i) "java/lang/String", Cond.eq (.field (zTm i) "java/lang/String" "coder" "B") (.int 0), Cond.arrayOf (.field (zTm i) "java/lang/String" "value" "[B") .byte, Cond.eq (.length (.field (zTm i) "java/lang/String" "value" "[B")) (.int (Int32.ofNat (zSl.getD i 0)))] ++ (List.range (zSl.getD i 0)).map (fun j => Cond.eq (.elem (.field (zTm i) "java/lang/String" "value" "[B") (.int (Int32.ofNat j))) (.int ((zSb.getD i []).getD j 0)))
def zNE (i j : Nat) : Cond := Cond.not (Cond.eq (zTm i) (zTm j))
set_option maxRecDepth 100000 in
theorem zND_in : ∀ w ∈ zND, w ∈ flatC (Jvm.Cond.and given_1 narrow_1) := by decide +kernel
set_option maxRecDepth 100000 in
theorem zNE_in : ∀ i, i < 7 → ∀ j, j < 7 → i ≠ j → (zNE i j ∈ flatC (Jvm.Cond.and given_1 narrow_1) ∨ zNE j i ∈ flatC (Jvm.Cond.and given_1 narrow_1)) := by decide +kernel
theorem zSl_small : ∀ i, i < 7 → zSl.getD i 0 < 2 ^ 31 := by decide +kernel
def zCy (f : Nat → ClassId) (i : Nat) : ClassId := f i
theorem zArrOf {s : State} {c comp : ClassId} {k : Class} {ty : FieldType} (h2 : s.vm.classes[c]? = some k) (h3 : k.kind = .array comp ty) : ArrOfT s c ty := fun n z => ⟨fun k h => (by cases h), k, h2, comp, h3⟩
set_option maxRecDepth 100000 in
set_option maxHeartbeats 4000000 in
theorem zKK_start {args : Array Value} {s : State} (hts : ∀ w ∈ lw_tbl, w.before args s = true) (hgv : (Jvm.Cond.and given_1 narrow_1).before args s = true) : ∃ (Gd : va_G) (cy : Nat → ClassId) (adK adV : Nat → Nat), zKK Gd cy adK adV (fun q : Nat => s.heap.size ≤ q) s := by
  have hA : ∀ a : Nat, a < s.heap.size → ¬ (fun q : Nat => s.heap.size ≤ q) a := fun a h => Nat.not_le.mpr h
  have hfl := flat_of_before _ hgv
  have hG := zGT_hts hts
  obtain ⟨c0, iS0, hKn0⟩ := u_known (C := RX0) (T := TX0) (N := 11) (n := 11) hG zinX0 (hts (.instantiable RX0 11) (List.mem_of_getElem? (i := 442) (by decide +kernel)))
  obtain ⟨c1, iS1, hKn1⟩ := u_known (C := RX1) (T := TX1) (N := 10) (n := 10) hG zinX1 (hts (.instantiable RX1 10) (List.mem_of_getElem? (i := 262) (by decide +kernel)))
  obtain ⟨c2, iS2, hKn2⟩ := u_known (C := RX2) (T := TX2) (N := 9) (n := 9) hG zinX2 (hts (.instantiable RX2 9) (List.mem_of_getElem? (i := 306) (by decide +kernel)))
  obtain ⟨c3, iS3, hKn3⟩ := u_known (C := RX3) (T := TX3) (N := 17) (n := 17) hG zinX3 (hts (.instantiable RX3 17) (List.mem_of_getElem? (i := 342) (by decide +kernel)))
  obtain ⟨c4, iS4, hKn4⟩ := u_known (C := RX4) (T := TX4) (N := 11) (n := 11) hG zinX4 (hts (.instantiable RX4 11) (List.mem_of_getElem? (i := 401) (by decide +kernel)))
  obtain ⟨c5, iS5, hKn5⟩ := u_known (C := RX5) (T := TX5) (N := 6) (n := 6) hG zinX5 (hts (.instantiable RX5 6) (List.mem_of_getElem? (i := 485) (by decide +kernel)))
  obtain ⟨c6, iS6, hKn6⟩ := u_known (C := RX6) (T := TX6) (N := 7) (n := 7) hG zinX6 (hts (.instantiable RX6 7) (List.mem_of_getElem? (i := 189) (by decide +kernel)))
  obtain ⟨c7, iS7, hKn7⟩ := u_known (C := RX7) (T := TX7) (N := 3) (n := 3) hG zinX7 (hts (.instantiable RX7 3) (List.mem_of_getElem? (i := 900) (by decide +kernel)))
  obtain ⟨c8, iS8, hKn8⟩ := u_known (C := RX8) (T := TX8) (N := 10) (n := 10) hG zinX8 (hts (.instantiable RX8 10) (List.mem_of_getElem? (i := 235) (by decide +kernel)))
  obtain ⟨c9, iS9, hKn9⟩ := u_known (C := RX10) (T := TX10) (N := 1) (n := 1) hG zinX10 (hts (.instantiable RX10 1) (List.mem_of_getElem? (i := 172) (by decide +kernel)))
  obtain ⟨c10, iS10, hKn10⟩ := u_known (C := RX11) (T := TX11) (N := 17) (n := 17) hG zinX11 (hts (.instantiable RX11 17) (List.mem_of_getElem? (i := 164) (by decide +kernel)))
  obtain ⟨c11, iS11, hKn11⟩ := u_known (C := RX12) (T := TX12) (N := 39) (n := 39) hG zinX12 (hts (.instantiable RX12 39) (List.mem_of_getElem? (i := 1413) (by decide +kernel)))
  obtain ⟨dC, dI, hKc⟩ : ∃ (dC : Nat → ClassId) (dI : Nat → Nat → Nat), ∀ (k : Nat) (q : vw_C), vwCl[k]? = some q → u_Kn s q.1 q.2.1 q.2.2 (dC k) (dI k) := by
    refine ⟨fun k => if k = 0 then c0 else if k = 1 then c1 else if k = 2 then c2 else if k = 3 then c3 else if k = 4 then c4 else if k = 5 then c5 else if k = 6 then c6 else if k = 7 then c7 else if k = 8 then c8 else if k = 9 then c9 else if k = 10 then c10 else c11, fun k => if k = 0 then iS0 else if k = 1 then iS1 else if k = 2 then iS2 else if k = 3 then iS3 else if k = 4 then iS4 else if k = 5 then iS5 else if k = 6 then iS6 else if k = 7 then iS7 else if k = 8 then iS8 else if k = 9 then iS9 else if k = 10 then iS10 else iS11, ?_⟩
    intro k q hq
    match k, hq with
    | 0, hq => cases hq; exact hKn0
    | 1, hq => cases hq; exact hKn1
    | 2, hq => cases hq; exact hKn2
    | 3, hq => cases hq; exact hKn3
    | 4, hq => cases hq; exact hKn4
    | 5, hq => cases hq; exact hKn5
    | 6, hq => cases hq; exact hKn6
    | 7, hq => cases hq; exact hKn7
    | 8, hq => cases hq; exact hKn8
    | 9, hq => cases hq; exact hKn9
    | 10, hq => cases hq; exact hKn10
    | 11, hq => cases hq; exact hKn11
    | k + 12, hq => simp [vwCl] at hq
  obtain ⟨y0, k0, p0, a0, b0, e0⟩ := Cond.arrayClass_spec (hts (.arrayClass .byte) (List.mem_of_getElem? (i := 786) (by decide +kernel)))
  obtain ⟨y1, k1, p1, a1, b1, e1⟩ := Cond.arrayClass_spec (hts (.arrayClass .int) (List.mem_of_getElem? (i := 184) (by decide +kernel)))
  obtain ⟨y2, k2, p2, a2, b2, e2⟩ := Cond.arrayClass_spec (hts (.arrayClass .long) (List.mem_of_getElem? (i := 304) (by decide +kernel)))
  obtain ⟨y3, k3, p3, a3, b3, e3⟩ := Cond.arrayClass_spec (hts (.arrayClass .boolean) (List.mem_of_getElem? (i := 511) (by decide +kernel)))
  have ho4 := hts (.arrayOver (.object RX7)) (List.mem_of_getElem? (i := 187) (by decide +kernel))
  obtain ⟨p4, y4, k4, f4, -, b4, e4, a4⟩ := Cond.arrayOver_spec ho4
  have ho5 := hts (.arrayOver (.object RX10)) (List.mem_of_getElem? (i := 185) (by decide +kernel))
  obtain ⟨p5, y5, k5, f5, -, b5, e5, a5⟩ := Cond.arrayOver_spec ho5
  obtain ⟨adK, adV, hvS, had⟩ := vk_Sof (args := args) (s := s) (N := 7) (tm := zTm) (len := zSl) (byt := zSb) (A := fun q : Nat => s.heap.size ≤ q) zSl_small
    (fun i hi => hfl _ (zND_in _ (List.mem_flatMap.mpr ⟨i, List.mem_range.mpr hi, List.mem_append_left _ (by simp)⟩)))
    (fun i hi => hfl _ (zND_in _ (List.mem_flatMap.mpr ⟨i, List.mem_range.mpr hi, List.mem_append_left _ (by simp)⟩)))
    (fun i hi => hfl _ (zND_in _ (List.mem_flatMap.mpr ⟨i, List.mem_range.mpr hi, List.mem_append_left _ (by simp)⟩)))
    (fun i hi => hfl _ (zND_in _ (List.mem_flatMap.mpr ⟨i, List.mem_range.mpr hi, List.mem_append_left _ (by simp)⟩)))
    (fun i hi j hj => hfl _ (zND_in _ (List.mem_flatMap.mpr ⟨i, List.mem_range.mpr hi, List.mem_append_right _ (List.mem_map.mpr ⟨j, List.mem_range.mpr hj, rfl⟩)⟩)))
    (fun i j hi hj hij => (zNE_in i hi j hj hij).elim (fun h => Or.inl (hfl _ h)) (fun h => Or.inr (hfl _ h))) hA
  refine ⟨(dC, dI), fun i => if i = 0 then y0 else if i = 1 then y1 else if i = 2 then y2 else if i = 3 then y3 else if i = 4 then y4 else y5, adK, adV, ⟨hKc, ?_⟩, ⟨fun x i y hst hm => va_Nw.of rfl (hts _ hm), va_Nw.of rfl (hts (.castable "[I" "java/lang/Cloneable") (List.mem_of_getElem? (i := 909) (by decide +kernel))), va_AO.of ho4, va_AO.of ho5⟩, hvS, ?_, ?_, ?_⟩
  · intro k q hq
    match k, hq with
    | 0, hq => cases hq; exact ⟨zArrOf b0 e0, a0⟩
    | 1, hq => cases hq; exact ⟨zArrOf b1 e1, a1⟩
    | 2, hq => cases hq; exact ⟨zArrOf b2 e2, a2⟩
    | 3, hq => cases hq; exact ⟨zArrOf b3 e3, a3⟩
    | 4, hq => cases hq; exact ⟨zArrOf b4 e4, k4, p4, b4, e4, f4, a4⟩
    | 5, hq => cases hq; exact ⟨zArrOf b5 e5, k5, p5, b5, e5, f5, a5⟩
    | k + 6, hq => simp [ztys] at hq
  · intro i t ht
    match i, ht with
    | 0, ht => cases ht; exact vk_R.of (hts _ (List.mem_of_getElem? (i := 612) (by decide +kernel))) (had 0 (by decide))
    | 1, ht => cases ht; exact vk_R.of (hts _ (List.mem_of_getElem? (i := 802) (by decide +kernel))) (had 1 (by decide))
    | 2, ht => cases ht; exact vk_R.of (hts _ (List.mem_of_getElem? (i := 835) (by decide +kernel))) (had 2 (by decide))
    | 3, ht => cases ht; exact vk_R.of (hts _ (List.mem_of_getElem? (i := 849) (by decide +kernel))) (had 3 (by decide))
    | 4, ht => cases ht; exact vk_R.of (hts _ (List.mem_of_getElem? (i := 866) (by decide +kernel))) (had 4 (by decide))
    | 5, ht => cases ht; exact vk_R.of (hts _ (List.mem_of_getElem? (i := 889) (by decide +kernel))) (had 5 (by decide))
    | 6, ht => cases ht; exact vk_R.of (hts _ (List.mem_of_getElem? (i := 891) (by decide +kernel))) (had 6 (by decide))
    | i + 7, ht => simp [zStr] at ht
  · exact va_Zof (hts _ (List.mem_of_getElem? (i := 632) (by decide +kernel))) (hts (.initialized "java/lang/String") (List.mem_of_getElem? (i := 158) (by decide +kernel))) (va_eqi (hfl _ (by decide +kernel))) hA
  · exact va_Zqof (hts _ (List.mem_of_getElem? (i := 648) (by decide +kernel))) (hts (.initialized "jdk/internal/util/Preconditions") (List.mem_of_getElem? (i := 160) (by decide +kernel))) (hfl _ (by decide +kernel)) hA
