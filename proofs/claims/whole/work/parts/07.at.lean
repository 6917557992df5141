/-! ===== a pure run is the machine's: what is said of a pc, and the rows that leave the heap ===== -/
def ztys (cy : Nat → ClassId) : List (ClassId × FieldType) := [(cy 0, .byte), (cy 1, .int), (cy 2, .long), (cy 3, .boolean), (cy 4, .object RX7), (cy 5, .object RX10)]
def zStr : List (String × Nat × String) := [(RX6, 61, "barge book stop reader wish hole"), (RX8, 64, "lend fetch shift"), (RX8, 143, "book weight shelf worth damp wish stop depth draught water loans day"), (RX8, 82, "if"), (RX8, 105, "not"), (RX8, 100, "and"), (RX8, 103, "or")]
def zSl : List Nat := zSb.map List.length
/-- links that are no words of the tables' list -/
def zNN (U : State) : Prop := (∀ (a : String) (i : Nat) (y : MethodName) (hst : String), Cond.methodLinkNest a i y hst ∈ lw_tbl → va_Nw (.methodLinkNest a i y hst) U) ∧ va_Nw (.castable "[I" "java/lang/Cloneable") U ∧ va_AO RX7 U ∧ va_AO RX10 U
/-- what is known of the machine's tables and constants in every activation -/
def zKK (Gd : va_G) (cy : Nat → ClassId) (adK adV : Nat → Nat) (A : Nat → Prop) (U : State) : Prop := va_K Gd vwCl (ztys cy) U ∧ zNN U ∧ vk_S 7 zSl zSb adK adV A U U.heap ∧ (∀ (i : Nat) (t : String × Nat × String), zStr[i]? = some t → vk_R t.1 t.2.1 t.2.2 (adK i) U) ∧ va_Z "java/lang/String" "COMPACT_STRINGS" "Z" (.int 1) A U U.heap ∧ va_Zq "jdk/internal/util/Preconditions" "SIOOBE_FORMATTER" "Ljava/util/function/BiFunction;" A U U.heap
/-- how an activation ends -/
def zQ (Gd : va_G) (cy : Nat → ClassId) (adK : Nat → Nat) (n0 : Nat) (ad0 : Nat → Nat) (A : Nat → Prop) (r : Option Value) (h : zH) : Array Value → State → Outcome → State → Prop := fun _ st oc t =>
  (∃ ad : Nat → Nat, (∀ i, i < n0 → ad i = ad0 i) ∧ oc = .returned (r.map (ztr ad adK)) ∧ va_P Gd vwCl (zws cy ad h) t.heap ∧ va_D A (zws cy ad h) ∧ zwf h ∧ (∀ v, r = some v → zvv h.1.length v)) ∧ va_F A st t
def zC (M : zM) (D : Nat) (p : Program) (R : Room) (s : State) (m : MethodId) (args : Array Value) (meth : Method) (c : Code) (A : Nat → Prop) (Gd : va_G) (cy : Nat → ClassId) (adK adV : Nat → Nat) : Prop :=
  p.tables.exec = Jvm.exec ∧ c.code = M.2.1 ∧ meth.sig.returnType = M.2.2.2.1 ∧ c.maxLocals = M.2.2.1 ∧ s.vm.findClass M.1.cls = some m.cls ∧ (∀ w ∈ zGT, w.before args s = true) ∧ meth.locks = false ∧ meth.name = M.1.name ∧ zKK Gd cy adK adV A s ∧ (∀ q, s.heap.size ≤ q → A q) ∧ D ≤ R.frames ∧ 64 * D ≤ R.locals
def zAt (G : Nat → zM) (l : Launch) (D j pc : Nat) (L : zL) (st : List Value) (h : zH) (res : zR) : Prop :=
  (h.1.length ≤ res.2.1.length ∧ zsz h.1 ≤ zsz res.2.1) ∧
  ∀ (p : Program) (e : Env) (R : Room) (s : State) (m : MethodId) (args : Array Value) (below : List Frame) (meth : Method) (c : Code) (A : Nat → Prop) (Gd : va_G) (cy : Nat → ClassId) (adK adV ad0 : Nat → Nat) (n0 z0 : Nat),
    zC (G j) D p R s m args meth c A Gd cy adK adV → n0 ≤ h.1.length → z0 ≤ zsz h.1 → R.cells = res.2.1.length - n0 → R.slots = zsz res.2.1 - z0 →
    ∀ (ad : Nat → Nat) (H : Heap) (locs : List Loc) (ls : Array Slot), (∀ i, i < n0 → ad i = ad0 i) → va_P Gd vwCl (zws cy ad h) H → va_D A (zws cy ad h) → va_S A s.heap H locs → zhas ls (G j).2.2.1 ad adK L → zwf h → (∀ (i : Nat) (v : Value), L[i]? = some (some v) → zvv h.1.length v) → (∀ v ∈ st, zvv h.1.length v) →
    W p l e R s m args below meth c H locs (h.1.length - n0) (zsz h.1 - z0) (MQ below (zQ Gd cy adK n0 ad0 A res.1 res.2) args s (res.2.1.length - n0) (zsz res.2.1 - z0) A) (F0 m pc ls (st.map (ztr ad adK)))
section zrows
variable {G : Nat → zM} {l : Launch} {D j : Nat} {L : zL} {st : List Value} {h : zH} {res : zR} {pc : Nat}
/-- a row that leaves locals and heap -/
theorem zAt_row {pc' : Nat} {st' : List Value} (hk : zAt G l D j pc' L st' h res) (hv : ∀ n, (∀ (i : Nat) (v : Value), L[i]? = some (some v) → zvv n v) → (∀ v ∈ st, zvv n v) → ∀ v ∈ st', zvv n v)
    (hrow : ∀ (p : Program) (e : Env) (R : Room) (s : State) (m : MethodId) (args : Array Value) (below : List Frame) (meth : Method) (c : Code) (H : Heap) (locs : List Loc) (cells slots : Nat) (Q : State → Prop) (ls : Array Slot) (ad adK : Nat → Nat), p.tables.exec = Jvm.exec → c.code = (G j).2.1 → s.vm.findClass (G j).1.cls = some m.cls → (∀ w ∈ zGT, w.before args s = true) → (∀ (i : Nat) (t : String × Nat × String), zStr[i]? = some t → vk_R t.1 t.2.1 t.2.2 (adK i) s) → (∀ (i : Nat) (v : Value), L[i]? = some (some v) → ls[i]? = some (.val (ztr ad adK v))) →
      W p l e R s m args below meth c H locs cells slots Q (F0 m pc' ls (st'.map (ztr ad adK))) → W p l e R s m args below meth c H locs cells slots Q (F0 m pc ls (st.map (ztr ad adK)))) : zAt G l D j pc L st h res := by
  refine ⟨hk.1, ?_⟩
  intro p e R s m args below meth c A Gd cy adK adV ad0 n0 z0 C hn hz hc hs ad H locs ls ha hP hD hS hl hw hvL hvS
  refine hrow p e R s m args below meth c H locs _ _ _ ls ad adK C.1 C.2.1 C.2.2.2.2.1 C.2.2.2.2.2.1 C.2.2.2.2.2.2.2.2.1.2.2.2.1 hl.2.2 ?_
  exact hk.2 p e R s m args below meth c A Gd cy adK adV ad0 n0 z0 C hn hz hc hs ad H locs ls ha hP hD hS hl hw hvL (hv _ hvL hvS)
/-- a row that stores a local of one slot -/
theorem zAt_st1 {pc' i : Nat} {st' : List Value} {v : Value} (hk : zAt G l D j pc' (zst1 L i v) st' h res) (hi : i < (G j).2.2.1) (hv : ∀ n, (∀ (i : Nat) (v : Value), L[i]? = some (some v) → zvv n v) → (∀ v ∈ st, zvv n v) → zvv n v ∧ ∀ v ∈ st', zvv n v)
    (hrow : ∀ (p : Program) (e : Env) (R : Room) (s : State) (m : MethodId) (args : Array Value) (below : List Frame) (meth : Method) (c : Code) (H : Heap) (locs : List Loc) (cells slots : Nat) (Q : State → Prop) (ls : Array Slot) (ad adK : Nat → Nat), p.tables.exec = Jvm.exec → c.code = (G j).2.1 → zhas ls (G j).2.2.1 ad adK L → lv_has ls (G j).2.2.1 (zpl ad adK 0 L) → i < (G j).2.2.1 →
      (∀ ls' : Array Slot, lv_has ls' (G j).2.2.1 ((i, ztr ad adK v) :: (zpl ad adK 0 L).filter (fun q => !(q.1 == i) && !(q.1 + 1 == i && q.2.category == 2))) → W p l e R s m args below meth c H locs cells slots Q (F0 m pc' ls' (st'.map (ztr ad adK)))) → W p l e R s m args below meth c H locs cells slots Q (F0 m pc ls (st.map (ztr ad adK)))) : zAt G l D j pc L st h res := by
  refine ⟨hk.1, ?_⟩
  intro p e R s m args below meth c A Gd cy adK adV ad0 n0 z0 C hn hz hc hs ad H locs ls ha hP hD hS hl hw hvL hvS
  refine hrow p e R s m args below meth c H locs _ _ _ ls ad adK C.1 C.2.1 hl (zhas_lv hl) hi fun ls' h' => ?_
  obtain ⟨hv1, hv2⟩ := hv _ hvL hvS
  refine hk.2 p e R s m args below meth c A Gd cy adK adV ad0 n0 z0 C hn hz hc hs ad H locs ls' ha hP hD hS (zhas_st1 h') hw ?_ hv2
  intro k w hkw
  unfold zst1 at hkw
  by_cases e1 : k = i
  · subst e1
    by_cases hl : k < (zkill L k).length
    · rw [List.getElem?_set_self hl] at hkw; cases hkw; exact hv1
    · rw [List.getElem?_eq_none (by simp; omega)] at hkw; cases hkw
  · rw [List.getElem?_set_ne (fun q => e1 q.symm)] at hkw
    exact hvL k w (zkill_get hkw).1
theorem zAt_st2 {pc' i : Nat} {st' : List Value} {v : Value} (hk : zAt G l D j pc' (zst2 L i v) st' h res) (hi : i + 1 < (G j).2.2.1) (hv : ∀ n, (∀ v ∈ st, zvv n v) → zvv n v ∧ ∀ v ∈ st', zvv n v)
    (hrow : ∀ (p : Program) (e : Env) (R : Room) (s : State) (m : MethodId) (args : Array Value) (below : List Frame) (meth : Method) (c : Code) (H : Heap) (locs : List Loc) (cells slots : Nat) (Q : State → Prop) (ls : Array Slot) (ad adK : Nat → Nat), p.tables.exec = Jvm.exec → c.code = (G j).2.1 → lv_has ls (G j).2.2.1 (zpl ad adK 0 L) →
      (∀ ls' : Array Slot, lv_has ls' (G j).2.2.1 ((i, ztr ad adK v) :: (zpl ad adK 0 L).filter (fun q => !(q.1 == i) && (!(q.1 == i + 1) && !(q.1 + 1 == i && q.2.category == 2)))) → W p l e R s m args below meth c H locs cells slots Q (F0 m pc' ls' (st'.map (ztr ad adK)))) → W p l e R s m args below meth c H locs cells slots Q (F0 m pc ls (st.map (ztr ad adK)))) : zAt G l D j pc L st h res := by
  refine ⟨hk.1, ?_⟩
  intro p e R s m args below meth c A Gd cy adK adV ad0 n0 z0 C hn hz hc hs ad H locs ls ha hP hD hS hl hw hvL hvS
  refine hrow p e R s m args below meth c H locs _ _ _ ls ad adK C.1 C.2.1 (zhas_lv hl) fun ls' h' => ?_
  obtain ⟨hv1, hv2⟩ := hv _ hvS
  refine hk.2 p e R s m args below meth c A Gd cy adK adV ad0 n0 z0 C hn hz hc hs ad H locs ls' ha hP hD hS (zhas_st2 h') hw ?_ hv2
  intro k w hkw
  unfold zst2 at hkw
  by_cases e2 : k = i + 1
  · subst e2
    by_cases hl : i + 1 < ((zkill L i).set i (some v)).length
    · rw [List.getElem?_set_self hl] at hkw; cases hkw
    · rw [List.getElem?_eq_none (by simp at hl ⊢; omega)] at hkw; cases hkw
  · rw [List.getElem?_set_ne (fun q => e2 q.symm)] at hkw
    by_cases e1 : k = i
    · subst e1
      by_cases hl : k < (zkill L k).length
      · rw [List.getElem?_set_self hl] at hkw; cases hkw; exact hv1
      · rw [List.getElem?_eq_none (by simp; omega)] at hkw; cases hkw
    · rw [List.getElem?_set_ne (fun q => e1 q.symm)] at hkw
      exact hvL k w (zkill_get hkw).1
end zrows
/-! what a helper that answered has seen -/
theorem zi_zif {c : Bool} {x : Option zR} {r : zR} (h : zif c x = some r) : c = true ∧ x = some r := by
  cases c
  · cases h
  · exact ⟨rfl, h⟩
theorem zi_lI {L : zL} {i : Nat} {f : Int32 → Option zR} {r : zR} (h : zlI L i f = some r) : ∃ x, L[i]? = some (some (.int x)) ∧ f x = some r := by
  unfold zlI at h; split at h
  · rename_i x hx; exact ⟨x, hx, h⟩
  · cases h
theorem zi_lJ {L : zL} {i : Nat} {f : Int64 → Option zR} {r : zR} (h : zlJ L i f = some r) : ∃ x, L[i]? = some (some (.long x)) ∧ f x = some r := by
  unfold zlJ at h; split at h
  · rename_i x hx; exact ⟨x, hx, h⟩
  · cases h
theorem zi_lA {L : zL} {i : Nat} {f : Value → Option zR} {r : zR} (h : zlA L i f = some r) : ∃ x, L[i]? = some (some x) ∧ f x = some r ∧ ((∃ q, x = .ref q) ∨ x = .null ∨ ∃ q, x = .retAddr q) := by
  unfold zlA at h; split at h
  · rename_i x hx; exact ⟨_, hx, h, Or.inl ⟨_, rfl⟩⟩
  · rename_i hx; exact ⟨_, hx, h, Or.inr (Or.inl rfl)⟩
  · rename_i x hx; exact ⟨_, hx, h, Or.inr (Or.inr ⟨_, rfl⟩)⟩
  · cases h
theorem zi_I1 {st : List Value} {f : Int32 → List Value → Option zR} {r : zR} (h : zI1 st f = some r) : ∃ x t, st = .int x :: t ∧ f x t = some r := by
  unfold zI1 at h; split at h
  · exact ⟨_, _, rfl, h⟩
  · cases h
theorem zi_I2 {st : List Value} {f : Int32 → Int32 → List Value → Option zR} {r : zR} (h : zI2 st f = some r) : ∃ x y t, st = .int y :: .int x :: t ∧ f x y t = some r := by
  unfold zI2 at h; split at h
  · exact ⟨_, _, _, rfl, h⟩
  · cases h
theorem zi_J1 {st : List Value} {f : Int64 → List Value → Option zR} {r : zR} (h : zJ1 st f = some r) : ∃ x t, st = .long x :: t ∧ f x t = some r := by
  unfold zJ1 at h; split at h
  · exact ⟨_, _, rfl, h⟩
  · cases h
theorem zi_J2 {st : List Value} {f : Int64 → Int64 → List Value → Option zR} {r : zR} (h : zJ2 st f = some r) : ∃ x y t, st = .long y :: .long x :: t ∧ f x y t = some r := by
  unfold zJ2 at h; split at h
  · exact ⟨_, _, _, rfl, h⟩
  · cases h
theorem zi_JI {st : List Value} {f : Int64 → Int32 → List Value → Option zR} {r : zR} (h : zJI st f = some r) : ∃ x y t, st = .int y :: .long x :: t ∧ f x y t = some r := by
  unfold zJI at h; split at h
  · exact ⟨_, _, _, rfl, h⟩
  · cases h
theorem zi_A1 {st : List Value} {f : Nat → List Value → Option zR} {r : zR} (h : zA1 st f = some r) : ∃ x t, st = .ref x :: t ∧ f x t = some r := by
  unfold zA1 at h; split at h
  · exact ⟨_, _, rfl, h⟩
  · cases h
theorem zi_IA {st : List Value} {f : Nat → Int32 → List Value → Option zR} {r : zR} (h : zIA st f = some r) : ∃ a i t, st = .int i :: .ref a :: t ∧ f a i t = some r := by
  unfold zIA at h; split at h
  · exact ⟨_, _, _, rfl, h⟩
  · cases h
theorem zi_V1 {st : List Value} {f : Value → List Value → Option zR} {r : zR} (h : zV1 st f = some r) : ∃ v t, st = v :: t ∧ v.category = 1 ∧ f v t = some r := by
  cases st with
  | nil => cases h
  | cons v t => cases v <;> first | exact ⟨_, _, rfl, rfl, h⟩ | (cases h; done)
theorem zi_V2 {st : List Value} {f : Value → Value → List Value → Option zR} {g : Value → List Value → Option zR} {r : zR} (h : zV2 st f g = some r) : (∃ v w t, st = v :: w :: t ∧ v.category = 1 ∧ w.category = 1 ∧ f v w t = some r) ∨ ∃ v t, st = v :: t ∧ v.category = 2 ∧ g v t = some r := by
  unfold zV2 at h; split at h
  · exact Or.inr ⟨_, _, rfl, rfl, h⟩
  · exact Or.inl ⟨_, _, _, rfl, rfl, rfl, h⟩
  · exact Or.inl ⟨_, _, _, rfl, rfl, rfl, h⟩
  · cases h
theorem zi_N1 {st : List Value} {f g : List Value → Option zR} {r : zR} (h : zN1 st f g = some r) : (∃ t, st = .null :: t ∧ f t = some r) ∨ ∃ q t, st = .ref q :: t ∧ g t = some r := by
  unfold zN1 at h; split at h
  · exact Or.inl ⟨_, rfl, h⟩
  · exact Or.inr ⟨_, _, rfl, h⟩
  · cases h
theorem zi_As {st : List Value} {f : Value → List Value → Option zR} {r : zR} (h : zAs st f = some r) : ∃ v t, st = v :: t ∧ ((∃ q, v = .ref q) ∨ v = .null) ∧ f v t = some r := by
  unfold zAs at h; split at h
  · exact ⟨_, _, rfl, Or.inl ⟨_, rfl⟩, h⟩
  · exact ⟨_, _, rfl, Or.inr rfl, h⟩
  · cases h
theorem zi_VA {st : List Value} {f : Nat → Int32 → Int32 → List Value → Option zR} {r : zR} (h : zVA st f = some r) : ∃ a i x t, st = .int x :: .int i :: .ref a :: t ∧ f a i x t = some r := by
  unfold zVA at h; split at h
  · exact ⟨_, _, _, _, rfl, h⟩
  · cases h
theorem zi_WA {st : List Value} {f : Nat → Int32 → Int64 → List Value → Option zR} {r : zR} (h : zWA st f = some r) : ∃ a i x t, st = .long x :: .int i :: .ref a :: t ∧ f a i x t = some r := by
  unfold zWA at h; split at h
  · exact ⟨_, _, _, _, rfl, h⟩
  · cases h
theorem zi_QA {st : List Value} {f : Nat → Int32 → Nat → List Value → Option zR} {r : zR} (h : zQA st f = some r) : ∃ a i x t, st = .ref x :: .int i :: .ref a :: t ∧ f a i x t = some r := by
  unfold zQA at h; split at h
  · exact ⟨_, _, _, _, rfl, h⟩
  · cases h
theorem zi_Cp {st : List Value} {f : Nat → Int32 → Nat → Int32 → Int32 → List Value → Option zR} {r : zR} (h : zCp st f = some r) : ∃ a sp d dp n t, st = .int n :: .int dp :: .ref d :: .int sp :: .ref a :: t ∧ f a sp d dp n t = some r := by
  unfold zCp at h; split at h
  · exact ⟨_, _, _, _, _, _, rfl, h⟩
  · cases h
theorem zi_St {st : List Value} {f : Nat → List Value → Option zR} {r : zR} (h : zSt st f = some r) : ∃ x t, st = .retAddr x :: t ∧ f x t = some r := by
  unfold zSt at h; split at h
  · exact ⟨_, _, rfl, h⟩
  · cases h
theorem zi_Sc {st : List Value} {f : Nat → Int32 → List Value → Option zR} {r : zR} (h : zSc st f = some r) : ∃ x i t, st = .int i :: .retAddr x :: t ∧ f x i t = some r := by
  unfold zSc at h; split at h
  · exact ⟨_, _, _, rfl, h⟩
  · cases h
theorem zi_ob {h : zH} {a : Nat} {ks : List Nat} {f : (Nat → Option Nat) → Option zR} {r : zR} (hh : zob h a ks f = some r) : ∃ e, h.1[a]? = some e ∧ zhas1 ks e.1 = true ∧ f e.2.2 = some r := by
  unfold zob at hh; split at hh
  · rename_i e he
    split at hh
    · rename_i hc; exact ⟨e, he, hc, hh⟩
    · cases hh
  · cases hh
theorem zi_ar {h : zH} {a kd : Nat} {f : Nat → (Nat → Option Nat) → Option zR} {r : zR} (hh : zar h a kd f = some r) : ∃ n rf, h.1[a]? = some (kd, n, rf) ∧ f n rf = some r := by
  unfold zar at hh; split at hh
  · rename_i e he
    split at hh
    · rename_i hc
      have : e.1 = kd := Nat.eq_of_beq_eq_true hc
      exact ⟨e.2.1, e.2.2, by rw [he, ← this], hh⟩
    · cases hh
  · cases hh
theorem zi_ar2 {h : zH} {a k1 k2 : Nat} {f g : Nat → Option zR} {r : zR} (hh : zar2 h a k1 k2 f g = some r) : ∃ n rf, (h.1[a]? = some (k1, n, rf) ∧ f n = some r) ∨ (h.1[a]? = some (k2, n, rf) ∧ g n = some r) := by
  unfold zar2 at hh; split at hh
  · rename_i e he
    split at hh
    · rename_i hc
      have : e.1 = k1 := Nat.eq_of_beq_eq_true hc
      exact ⟨e.2.1, e.2.2, Or.inl ⟨by rw [he, ← this], hh⟩⟩
    · split at hh
      · rename_i hc
        have : e.1 = k2 := Nat.eq_of_beq_eq_true hc
        exact ⟨e.2.1, e.2.2, Or.inr ⟨by rw [he, ← this], hh⟩⟩
      · cases hh
  · cases hh
theorem zi_al {h : zH} {a : Nat} {f : Nat → Option zR} {r : zR} (hh : zal h a f = some r) : ∃ e, h.1[a]? = some e ∧ 12 ≤ e.1 ∧ f e.2.1 = some r := by
  unfold zal at hh; split at hh
  · rename_i e he
    split at hh
    · rename_i hc; exact ⟨e, he, Nat.le_of_ble_eq_true hc, hh⟩
    · cases hh
  · cases hh
theorem zi_rf {r0 : Option Nat} {f : Nat → Option zR} {g : Option zR} {r : zR} (hh : zrf r0 f g = some r) : (∃ q, r0 = some q ∧ f q = some r) ∨ (r0 = none ∧ g = some r) := by
  cases r0 with
  | none => exact Or.inr ⟨rfl, hh⟩
  | some q => exact Or.inl ⟨q, rfl, hh⟩
theorem zin_vp {i : Int32} {n : Nat} (h : zin i n = true) : vp_in i n := by
  unfold zin at h
  simp only [Bool.and_eq_true, decide_eq_true_eq] at h
  exact vp_in_iff.mpr h
