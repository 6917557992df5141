/-! ===== what a pure heap is in the machine's ===== -/
def zWE : MethodName := ⟨"BookBarge$Scanner", "wordEnd", "()I"⟩
/-- the tables' words, and two that follow from them: the abstract class's private method, on its heirs -/
def zlw : List Cond := lw_tbl ++ [Cond.selects RX6 zWE zWE, Cond.selects RX8 zWE zWE]
theorem z_selects_private {C : String} {y y2 : MethodName} {s : State} {args : Array Value} {n : Nat} (hy : y.cls ≠ "java/lang/invoke/MethodHandle" ∧ y.cls ≠ "java/lang/invoke/VarHandle") (hy2 : y2.cls = y.cls)
    (hins : (Cond.instantiable C n).before args s = true) (hpriv : (Cond.privateMethod y).before args s = true) (hinst : (Cond.instanceMethod y).before args s = true) (hsel2 : (Cond.selects C y2 y2).before args s = true) :
    (Cond.selects C y y).before args s = true := by
  obtain ⟨c, k, hc, hk, -, -, -, -⟩ := Cond.instantiable_spec hins
  obtain ⟨mk, methM, hnamed, hmethM, -, -⟩ := Cond.instanceMethod_spec hinst
  obtain ⟨c2, r2, m2, -, -, hn2, -, kP, hkP, hkPi⟩ := Cond.selects_spec hsel2
  have hfound : s.methodFound? y.cls y.name y.desc = some mk := State.methodFound?_of_named hnamed hy
  have hcls : mk.cls = m2.cls := Option.some.inj ((findClass_of_methodNamed hnamed).symm.trans (hy2 ▸ findClass_of_methodNamed hn2))
  have hsel : selectMethod {} s.vm c mk = .method mk := selectMethod_private hmethM (Cond.privateMethod_at hpriv mk methM hnamed hmethM)
  simp only [Cond.before, Cond.holds, Cond.value, hc, hfound, hnamed, hsel, hcls, hkP]
  simp; exact hkPi
theorem zlw_hts {s : State} {args : Array Value} (hts : ∀ w ∈ lw_tbl, w.before args s = true) : ∀ w ∈ zlw, w.before args s = true := by
  intro w hw
  rcases List.mem_append.mp hw with hw | hw
  · exact hts w hw
  · simp only [List.mem_cons, List.not_mem_nil, or_false] at hw
    rcases hw with rfl | rfl
    · exact z_selects_private (n := 7) (y2 := ⟨"BookBarge$Scanner", "skipBlanks", "()V"⟩) ⟨by decide +kernel, by decide +kernel⟩ rfl (hts _ (List.mem_of_getElem? (i := 189) (by decide +kernel))) (hts _ (List.mem_of_getElem? (i := 620) (by decide +kernel))) (hts _ (List.mem_of_getElem? (i := 621) (by decide +kernel))) (hts _ (List.mem_of_getElem? (i := 602) (by decide +kernel)))
    · exact z_selects_private (n := 10) (y2 := ⟨"BookBarge$Scanner", "skipBlanks", "()V"⟩) ⟨by decide +kernel, by decide +kernel⟩ rfl (hts _ (List.mem_of_getElem? (i := 235) (by decide +kernel))) (hts _ (List.mem_of_getElem? (i := 620) (by decide +kernel))) (hts _ (List.mem_of_getElem? (i := 621) (by decide +kernel))) (hts _ (List.mem_of_getElem? (i := 603) (by decide +kernel)))
def zGT : List Cond := zlw.filter goodWord
theorem zGT_mem {w : Cond} (i : Nat) (h : zlw[i]? = some w) (hg : goodWord w = true) : w ∈ zGT := List.mem_filter.mpr ⟨List.mem_of_getElem? h, hg⟩
theorem zGT_hts {s : State} {args : Array Value} (hts : ∀ w ∈ lw_tbl, w.before args s = true) : ∀ w ∈ zGT, w.before args s = true := fun w hw => zlw_hts hts w (List.mem_filter.mp hw).1
def zTy (c : Nat) : Nat → FieldType := match c with
  | 0 => tyX0 | 1 => tyX1 | 2 => tyX2 | 3 => tyX3 | 4 => tyX4 | 5 => tyX5 | 6 => tyX6 | 7 => tyX7 | 8 => tyX8 | 9 => tyX10 | 10 => tyX11 | _ => tyX12
def zNf (c : Nat) : Nat := match vwCl[c]? with
  | some r => r.2.2
  | none => 0
def ztr (ad adK : Nat → Nat) (v : Value) : Value := match v with
  | .ref q => .ref (ad q)
  | .retAddr i => .ref (adK i)
  | v => v
theorem ztr_cat (ad adK : Nat → Nat) (v : Value) : (ztr ad adK v).category = v.category := by cases v <;> rfl
def zfv (ad : Nat → Nat) (I : Nat → Int32) (J : Nat → Int64) (rf : Nat → Option Nat) (ty : FieldType) (k : Nat) : Value := match ty with
  | .long => .long (J k)
  | .object _ => va_rf ((rf k).map ad)
  | .array _ => va_rf ((rf k).map ad)
  | _ => .int (I k)
def zfs (ad : Nat → Nat) (I : Nat → Int32) (J : Nat → Int64) (c : Nat) (rf : Nat → Option Nat) : List Value := (List.range (zNf c)).map (fun k => zfv ad I J rf (zTy c k) k)
def zce (cy : Nat → ClassId) (ad : Nat → Nat) (I : Nat → Int32) (J : Nat → Int64) (e : zE) : va_E := match e.1 with
  | 12 => .inl (cy 0, e.2.1, .inl I)
  | 13 => .inl (cy 1, e.2.1, .inl I)
  | 14 => .inl (cy 2, e.2.1, .inr (.inl J))
  | 15 => .inl (cy 3, e.2.1, .inl I)
  | 16 => .inl (cy 4, e.2.1, .inr (.inr (.inr (.inr (fun j => (e.2.2 j).map ad)))))
  | 17 => .inl (cy 5, e.2.1, .inr (.inr (.inr (.inr (fun j => (e.2.2 j).map ad)))))
  | c => .inr (c, zfs ad I J c e.2.2)
def zat (cy : Nat → ClassId) (ad : Nat → Nat) (h : zH) (i : Nat) : va_E := match h.1[i]? with
  | some e => zce cy ad (h.2.1 i) (h.2.2 i) e
  | none => .inr (0, [])
def zws (cy : Nat → ClassId) (ad : Nat → Nat) (h : zH) : va_W := (List.range h.1.length).map fun i => (ad i, zat cy ad h i)
theorem zws_len (cy : Nat → ClassId) (ad : Nat → Nat) (h : zH) : (zws cy ad h).length = h.1.length := by simp [zws]
theorem zws_get0 {cy : Nat → ClassId} {ad : Nat → Nat} {h : zH} {i : Nat} (hi : i < h.1.length) : (zws cy ad h)[i]? = some (ad i, zat cy ad h i) := by
  simp [zws, List.getElem?_map, List.getElem?_range hi]
theorem zws_get {cy : Nat → ClassId} {ad : Nat → Nat} {h : zH} {i : Nat} {e : zE} (he : h.1[i]? = some e) : (zws cy ad h)[i]? = some (ad i, zce cy ad (h.2.1 i) (h.2.2 i) e) := by
  have hi : i < h.1.length := (List.getElem?_eq_some_iff.mp he).1
  rw [zws_get0 hi]; simp [zat, he]
theorem zws_set {cy : Nat → ClassId} {ad : Nat → Nat} {h h' : zH} {i : Nat} {x : va_E} (hl : h'.1.length = h.1.length) (hx : zat cy ad h' i = x) (ho : ∀ j, j ≠ i → h'.1[j]? = h.1[j]? ∧ h'.2.1 j = h.2.1 j ∧ h'.2.2 j = h.2.2 j) : (zws cy ad h).set i (ad i, x) = zws cy ad h' := by
  apply List.ext_getElem?
  intro j
  by_cases hj : j < h.1.length
  · rw [zws_get0 (hl ▸ hj)]
    by_cases e : j = i
    · subst e
      rw [List.getElem?_set_self (by rw [zws_len]; exact hj), hx]
    · rw [List.getElem?_set_ne (fun q => e q.symm), zws_get0 hj]
      obtain ⟨e1, e2, e3⟩ := ho j e
      simp [zat, e1, e2, e3]
  · rw [List.getElem?_eq_none (by rw [List.length_set, zws_len]; omega), List.getElem?_eq_none (by rw [zws_len]; omega)]
/-- every reference is a cell's -/
def zwf (h : zH) : Prop := ∀ (i : Nat) (e : zE), h.1[i]? = some e → ∀ (k q : Nat), e.2.2 k = some q → q < h.1.length
def zad (ad : Nat → Nat) (n q : Nat) : Nat → Nat := fun i => if i = n then q else ad i
theorem zad_lt {ad : Nat → Nat} {n q i : Nat} (h : i < n) : zad ad n q i = ad i := by unfold zad; rw [if_neg (by omega)]
theorem zad_n {ad : Nat → Nat} {n q : Nat} : zad ad n q n = q := by unfold zad; rw [if_pos rfl]
theorem zmap_ext {ad ad' : Nat → Nat} {n : Nat} {r : Option Nat} (he : ∀ i, i < n → ad' i = ad i) (hr : ∀ q, r = some q → q < n) : r.map ad' = r.map ad := by
  cases r with
  | none => rfl
  | some q => simp [he q (hr q rfl)]
theorem zce_ext {cy : Nat → ClassId} {ad ad' : Nat → Nat} {I : Nat → Int32} {J : Nat → Int64} {e : zE} {n : Nat} (he : ∀ i, i < n → ad' i = ad i) (hr : ∀ k q, e.2.2 k = some q → q < n) : zce cy ad' I J e = zce cy ad I J e := by
  have hm : ∀ k, (e.2.2 k).map ad' = (e.2.2 k).map ad := fun k => zmap_ext he (hr k)
  have hv : ∀ ty k, zfv ad' I J e.2.2 ty k = zfv ad I J e.2.2 ty k := fun ty k => by
    unfold zfv; split <;> first | rfl | rw [hm k]
  unfold zce
  split <;> first | rfl | (simp only [hm]) | (simp only [zfs, hv])
theorem zat_ext {cy : Nat → ClassId} {ad ad' : Nat → Nat} {h : zH} (hw : zwf h) (he : ∀ i, i < h.1.length → ad' i = ad i) (i : Nat) : zat cy ad' h i = zat cy ad h i := by
  unfold zat; split
  · rename_i e he1
    exact zce_ext he (fun k q hq => hw i e he1 k q hq)
  · rfl
theorem zws_push {cy : Nat → ClassId} {ad : Nat → Nat} {h h' : zH} {q : Nat} {e : zE} {x : va_E} (hw : zwf h) (h1 : h'.1 = h.1 ++ [e]) (ho : ∀ j, j < h.1.length → h'.2.1 j = h.2.1 j ∧ h'.2.2 j = h.2.2 j) (hx : zce cy (zad ad h.1.length q) (h'.2.1 h.1.length) (h'.2.2 h.1.length) e = x) : zws cy ad h ++ [(q, x)] = zws cy (zad ad h.1.length q) h' := by
  have hl : h'.1.length = h.1.length + 1 := by rw [h1]; simp
  apply List.ext_getElem?
  intro j
  by_cases hj : j < h.1.length
  · rw [List.getElem?_append_left (by rw [zws_len]; exact hj), zws_get0 hj, zws_get0 (by omega), zad_lt hj]
    obtain ⟨e2, e3⟩ := ho j hj
    have e1 : h'.1[j]? = h.1[j]? := by rw [h1, List.getElem?_append_left hj]
    have : zat cy (zad ad h.1.length q) h' j = zat cy (zad ad h.1.length q) h j := by simp [zat, e1, e2, e3]
    rw [this, zat_ext hw (fun i hi => zad_lt hi)]
  · by_cases hj2 : j = h.1.length
    · subst hj2
      rw [zws_get0 (by omega), zad_n, List.getElem?_append_right (by rw [zws_len]; exact Nat.le_refl _), zws_len, Nat.sub_self]
      have e1 : h'.1[h.1.length]? = some e := by rw [h1]; simp
      simp [zat, e1, hx]
    · rw [List.getElem?_eq_none (by rw [List.length_append, zws_len]; simp; omega), List.getElem?_eq_none (by rw [zws_len]; omega)]
/-- slots of a cell, of all cells -/
def zsc (e : zE) : Nat := if e.1 < 12 then zNf e.1 else e.2.1
def zsz (sh : List zE) : Nat := (sh.map zsc).sum
theorem zsz_push (sh : List zE) (e : zE) : zsz (sh ++ [e]) = zsz sh + zsc e := by simp [zsz]
theorem zsz_sR (sh : List zE) (o k : Nat) (v : Option Nat) : zsz (zsR sh o k v) = zsz sh := by
  unfold zsR
  split
  · rename_i e he
    obtain ⟨hl, he2⟩ := List.getElem?_eq_some_iff.mp he
    have : (sh.set o (e.1, e.2.1, zup e.2.2 k v)).map zsc = sh.map zsc := by
      apply List.ext_getElem?
      intro j
      rw [List.getElem?_map, List.getElem?_map]
      by_cases hj : j = o
      · subst hj
        rw [List.getElem?_set_self hl, he]
        rfl
      · rw [List.getElem?_set_ne (fun q => hj q.symm)]
    unfold zsz; rw [this]
  · rfl
theorem zsR_len (sh : List zE) (o k : Nat) (v : Option Nat) : (zsR sh o k v).length = sh.length := by
  unfold zsR; split
  · simp
  · rfl
theorem zsR_get {sh : List zE} {o k : Nat} {v : Option Nat} {e : zE} (he : sh[o]? = some e) : (zsR sh o k v)[o]? = some (e.1, e.2.1, zup e.2.2 k v) := by
  unfold zsR; rw [he]
  exact List.getElem?_set_self (List.getElem?_eq_some_iff.mp he).1
theorem zsR_ne {sh : List zE} {o k j : Nat} {v : Option Nat} (hj : j ≠ o) : (zsR sh o k v)[j]? = sh[j]? := by
  unfold zsR; split
  · exact List.getElem?_set_ne (fun q => hj q.symm)
  · rfl
/-- a value that is a reference is a cell's -/
def zvv (n : Nat) (v : Value) : Prop := ∀ q, v = .ref q → q < n
theorem zvv_i {n : Nat} {x : Int32} : zvv n (.int x) := fun _ h => by cases h
theorem zvv_l {n : Nat} {x : Int64} : zvv n (.long x) := fun _ h => by cases h
theorem zvv_n {n : Nat} : zvv n .null := fun _ h => by cases h
theorem zvv_s {n i : Nat} : zvv n (.retAddr i) := fun _ h => by cases h
theorem zvv_le {n m : Nat} {v : Value} (h : zvv n v) (hm : n ≤ m) : zvv m v := fun q e => Nat.lt_of_lt_of_le (h q e) hm
theorem zvv_r {n q : Nat} (h : q < n) : zvv n (.ref q) := fun q' e => by cases e; exact h
theorem ztr_ext {ad ad' adK : Nat → Nat} {n : Nat} {v : Value} (he : ∀ i, i < n → ad' i = ad i) (hv : zvv n v) : ztr ad' adK v = ztr ad adK v := by
  cases v <;> first | rfl | exact congrArg Value.ref (he _ (hv _ rfl))
theorem zmtr_ext {ad ad' adK : Nat → Nat} {n : Nat} {st : List Value} (he : ∀ i, i < n → ad' i = ad i) (hv : ∀ v ∈ st, zvv n v) : st.map (ztr ad' adK) = st.map (ztr ad adK) :=
  List.map_congr_left fun v h => ztr_ext he (hv v h)
/-- locals -/
def zhas (ls : Array Slot) (nL : Nat) (ad adK : Nat → Nat) (L : zL) : Prop := ls.size = nL ∧ lv_wf ls ∧ ∀ (i : Nat) (v : Value), L[i]? = some (some v) → ls[i]? = some (.val (ztr ad adK v))
def zpl (ad adK : Nat → Nat) : Nat → zL → List (Nat × Value)
  | _, [] => []
  | i, none :: r => zpl ad adK (i + 1) r
  | i, some v :: r => (i, ztr ad adK v) :: zpl ad adK (i + 1) r
theorem zpl_mem {ad adK : Nat → Nat} : ∀ (L : zL) (n : Nat) (q : Nat × Value), q ∈ zpl ad adK n L → ∃ i v, q = (n + i, ztr ad adK v) ∧ L[i]? = some (some v)
  | [], _, _, h => by cases h
  | none :: r, n, q, h => by
    obtain ⟨i, v, e1, e2⟩ := zpl_mem r (n + 1) q h
    exact ⟨i + 1, v, by rw [e1]; congr 1; omega, by simpa using e2⟩
  | some w :: r, n, q, h => by
    rcases List.mem_cons.mp h with rfl | h
    · exact ⟨0, w, rfl, rfl⟩
    · obtain ⟨i, v, e1, e2⟩ := zpl_mem r (n + 1) q h
      exact ⟨i + 1, v, by rw [e1]; congr 1; omega, by simpa using e2⟩
theorem zpl_in {ad adK : Nat → Nat} : ∀ (L : zL) (n i : Nat) (v : Value), L[i]? = some (some v) → (n + i, ztr ad adK v) ∈ zpl ad adK n L
  | [], _, i, _, h => by simp at h
  | none :: r, n, 0, _, h => by simp at h
  | none :: r, n, i + 1, v, h => by
    have := zpl_in (ad := ad) (adK := adK) r (n + 1) i v (by simpa using h)
    rw [show n + (i + 1) = n + 1 + i by omega]; exact this
  | some w :: r, n, 0, v, h => by
    have : w = v := by simpa using h
    subst this
    exact List.mem_cons_self
  | some w :: r, n, i + 1, v, h => by
    have := zpl_in (ad := ad) (adK := adK) r (n + 1) i v (by simpa using h)
    rw [show n + (i + 1) = n + 1 + i by omega]; exact List.mem_cons_of_mem _ this
theorem zhas_lv {ls : Array Slot} {nL : Nat} {ad adK : Nat → Nat} {L : zL} (h : zhas ls nL ad adK L) : lv_has ls nL (zpl ad adK 0 L) := by
  refine ⟨h.1, h.2.1, fun q hq => ?_⟩
  obtain ⟨i, v, e1, e2⟩ := zpl_mem L 0 q hq
  subst e1
  simpa using h.2.2 i v e2
theorem zkill_get {L : zL} {i j : Nat} {v : Value} (h : (zkill L i)[j]? = some (some v)) : L[j]? = some (some v) ∧ ¬ (j + 1 = i ∧ v.category = 2) := by
  cases i with
  | zero => exact ⟨h, fun q => by omega⟩
  | succ i =>
    unfold zkill at h
    dsimp only at h
    split at h
    · by_cases e : j = i
      · subst e
        by_cases hl : j < L.length
        · rw [List.getElem?_set_self hl] at h; cases h
        · rw [List.getElem?_eq_none (by simp; omega)] at h; cases h
      · rw [List.getElem?_set_ne (fun q => e q.symm)] at h
        exact ⟨h, fun q => e (by omega)⟩
    · by_cases e : j = i
      · subst e
        by_cases hl : j < L.length
        · rw [List.getElem?_set_self hl] at h; cases h
        · rw [List.getElem?_eq_none (by simp; omega)] at h; cases h
      · rw [List.getElem?_set_ne (fun q => e q.symm)] at h
        exact ⟨h, fun q => e (by omega)⟩
    · rename_i n1 n2
      refine ⟨h, fun q => ?_⟩
      have e : j = i := by omega
      subst e
      cases v <;> first | exact n1 _ h | exact n2 _ h | (exact absurd q.2 (by simp [Value.category]))
theorem zhas_st1 {ls' : Array Slot} {nL : Nat} {ad adK : Nat → Nat} {L : zL} {i : Nat} {v : Value} (h : lv_has ls' nL ((i, ztr ad adK v) :: (zpl ad adK 0 L).filter (fun q => !(q.1 == i) && !(q.1 + 1 == i && q.2.category == 2)))) : zhas ls' nL ad adK (zst1 L i v) := by
  refine ⟨h.1, h.2.1, fun j w hj => ?_⟩
  unfold zst1 at hj
  by_cases e : j = i
  · subst e
    by_cases hl : j < (zkill L j).length
    · rw [List.getElem?_set_self hl] at hj
      cases hj
      exact h.2.2 _ List.mem_cons_self
    · rw [List.getElem?_eq_none (by simp; omega)] at hj; cases hj
  · rw [List.getElem?_set_ne (fun q => e q.symm)] at hj
    obtain ⟨h1, h2⟩ := zkill_get hj
    have hm := zpl_in (ad := ad) (adK := adK) L 0 j w h1
    rw [Nat.zero_add] at hm
    refine h.2.2 (j, ztr ad adK w) (List.mem_cons_of_mem _ (List.mem_filter.mpr ⟨hm, ?_⟩))
    simp only [Bool.and_eq_true, Bool.not_eq_true', beq_eq_false_iff_ne, ne_eq, Bool.and_eq_false_iff, ztr_cat]
    refine ⟨e, ?_⟩
    by_cases c : j + 1 = i
    · exact Or.inr (fun q => h2 ⟨c, q⟩)
    · exact Or.inl c
theorem zhas_st2 {ls' : Array Slot} {nL : Nat} {ad adK : Nat → Nat} {L : zL} {i : Nat} {v : Value} (h : lv_has ls' nL ((i, ztr ad adK v) :: (zpl ad adK 0 L).filter (fun q => !(q.1 == i) && (!(q.1 == i + 1) && !(q.1 + 1 == i && q.2.category == 2))))) : zhas ls' nL ad adK (zst2 L i v) := by
  refine ⟨h.1, h.2.1, fun j w hj => ?_⟩
  unfold zst2 at hj
  by_cases e1 : j = i + 1
  · subst e1
    by_cases hl : i + 1 < ((zkill L i).set i (some v)).length
    · rw [List.getElem?_set_self hl] at hj; cases hj
    · rw [List.getElem?_eq_none (by simp at hl ⊢; omega)] at hj; cases hj
  · rw [List.getElem?_set_ne (fun q => e1 q.symm)] at hj
    by_cases e : j = i
    · subst e
      by_cases hl : j < (zkill L j).length
      · rw [List.getElem?_set_self hl] at hj
        cases hj
        exact h.2.2 _ List.mem_cons_self
      · rw [List.getElem?_eq_none (by simp; omega)] at hj; cases hj
    · rw [List.getElem?_set_ne (fun q => e q.symm)] at hj
      obtain ⟨h1, h2⟩ := zkill_get hj
      have hm := zpl_in (ad := ad) (adK := adK) L 0 j w h1
      rw [Nat.zero_add] at hm
      refine h.2.2 (j, ztr ad adK w) (List.mem_cons_of_mem _ (List.mem_filter.mpr ⟨hm, ?_⟩))
      simp only [Bool.and_eq_true, Bool.not_eq_true', beq_eq_false_iff_ne, ne_eq, Bool.and_eq_false_iff, ztr_cat]
      refine ⟨e, e1, ?_⟩
      by_cases c : j + 1 = i
      · exact Or.inr (fun q => h2 ⟨c, q⟩)
      · exact Or.inl c
theorem zmask_get : ∀ (m : List Bool) (L : zL) (j : Nat) (v : Value), (zmask m L)[j]? = some (some v) → L[j]? = some (some v)
  | [], L, j, v, h => by cases L <;> simp [zmask] at h
  | _ :: _, [], j, v, h => by simp [zmask] at h
  | b :: m, w :: L, 0, v, h => by
    cases b <;> simp [zmask] at h ⊢
    exact h
  | b :: m, w :: L, j + 1, v, h => by
    have : (zmask m L)[j]? = some (some v) := by simpa [zmask] using h
    simpa using zmask_get m L j v this
theorem zhas_mask {ls : Array Slot} {nL : Nat} {ad adK : Nat → Nat} {L : zL} (m : List Bool) (h : zhas ls nL ad adK L) : zhas ls nL ad adK (zmask m L) := ⟨h.1, h.2.1, fun i v hv => h.2.2 i v (zmask_get m L i v hv)⟩
theorem zhas_ext {ls : Array Slot} {nL : Nat} {ad ad' adK : Nat → Nat} {L : zL} {n : Nat} (h : zhas ls nL ad adK L) (he : ∀ i, i < n → ad' i = ad i) (hv : ∀ (i : Nat) (v : Value), L[i]? = some (some v) → zvv n v) : zhas ls nL ad' adK L := ⟨h.1, h.2.1, fun i v hi => by rw [ztr_ext he (hv i v hi)]; exact h.2.2 i v hi⟩
