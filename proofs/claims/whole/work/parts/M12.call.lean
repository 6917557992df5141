/-! ===== calls ===== -/
theorem zKK_calling {Gd : va_G} {cy : Nat → ClassId} {adK adV : Nat → Nat} {A : Nat → Prop} {U : State} (g : JFrame) (mk : MethodId) (a : Array Value) (h : zKK Gd cy adK adV A U) : zKK Gd cy adK adV A (U.calling g mk a) := by
  obtain ⟨h1, ⟨h2, h3, h4, h5⟩, h6, h7, h8, h9⟩ := h
  have hal : U.vm.Alike (U.calling g mk a).vm := Vm.Alike.refl U.vm
  refine ⟨va_K.moved (u := U) hal h1, ⟨fun x i y hst hm => va_Nw.same rfl (rfl : U.vm = (U.calling g mk a).vm) (h2 x i y hst hm), va_Nw.same rfl (rfl : U.vm = (U.calling g mk a).vm) h3, va_AO.moved hal h4, va_AO.moved hal h5⟩, ?_, fun i t ht => vk_R.same (rfl : (U.calling g mk a).vm = U.vm) (h7 i t ht), ?_, ?_⟩
  · exact vk_S.moved (U := U.calling g mk a) hal h6
  · exact va_Z.moved (U := U.calling g mk a) hal h8
  · exact va_Zq.moved (U := U.calling g mk a) hal h9
theorem zKK_warm {Gd : va_G} {cy : Nat → ClassId} {adK adV : Nat → Nat} {A A1 : Nat → Prop} {s U : State} {H : Heap} {locs : List Loc} (h : zKK Gd cy adK adV A s) (hS : va_S A s.heap H locs) (hU : U.heap = H) (hW : s.WarmedH U.vm) (hA : ∀ q, A1 q → A q) : zKK Gd cy adK adV A1 U := by
  obtain ⟨h1, ⟨h2, h3, h4, h5⟩, h6, h7, h8, h9⟩ := h
  have hal := hW.alike
  refine ⟨va_K.moved hal h1, ⟨fun x i y hst hm => va_Nw.warmM hW (h2 x i y hst hm), va_Nw.warmC hW h3, va_AO.moved hal h4, va_AO.moved hal h5⟩, ?_, fun i t ht => vk_R.warm hW (h7 i t ht), ?_, ?_⟩
  · rw [hU]; exact ((h6.kept hS.2.1).moved hal).narrow hA
  · rw [hU]; exact ((h8.kept hS.2.1).moved hal).narrow hA
  · rw [hU]; exact ((h9.kept hS.2.1).moved hal).narrow hA
/-- the start of an activation -/
def zPc (Gd : va_G) (cy : Nat → ClassId) (adK adV ad : Nat → Nat) (sz : Nat) (args : List Value) (h : zH) : Array Value → State → Prop := va_Pc (args.map (ztr ad adK)) (fun U => U.heap.size = sz ∧ va_P Gd vwCl (zws cy ad h) U.heap ∧ zKK Gd cy adK adV (va_A (zws cy ad h) sz) U ∧ va_D (fun _ => True) (zws cy ad h))
theorem zPc_blind {Gd : va_G} {cy : Nat → ClassId} {adK adV ad : Nat → Nat} {sz : Nat} {args : List Value} {h : zH} : FrameBlind (zPc Gd cy adK adV ad sz args h) := fun a U g mk q => ⟨q.1, q.2.1, q.2.2.1, zKK_calling g mk a q.2.2.2.1, q.2.2.2.2⟩
def zrm (D : Nat) (h h' : zH) : Room := { frames := D, cells := h'.1.length - h.1.length, slots := zsz h'.1 - zsz h.1, locals := 64 * D }
theorem zlg_len {ad adK : Nat → Nat} : ∀ args : List Value, (lg_sl (args.map (ztr ad adK))).length = (zar0 args).length
  | [] => rfl
  | v :: r => by
    have ih := zlg_len (ad := ad) (adK := adK) r
    unfold lg_sl at ih ⊢
    cases v <;> simp [zar0, ztr, Value.category] at ih ⊢ <;> omega
theorem zar_in {ad adK : Nat → Nat} : ∀ (args : List Value) (n i : Nat) (v : Value), (zar0 args)[i]? = some (some v) → (n + i, ztr ad adK v) ∈ lv_args n (args.map (ztr ad adK))
  | [], _, i, _, h => by simp [zar0] at h
  | w :: r, n, i, v, h => by
    have two : ∀ x : Value, x.category = 2 → zar0 (x :: r) = some x :: none :: zar0 r → (ztr ad adK x).category = 2 → ((zar0 (x :: r))[i]? = some (some v)) → (n + i, ztr ad adK v) ∈ lv_args n ((x :: r).map (ztr ad adK)) := by
      intro x hx e hc hh
      rw [e] at hh
      rw [List.map_cons, lv_args, if_pos hc]
      match i, hh with
      | 0, hh => simp at hh; subst hh; exact List.mem_cons_self
      | 1, hh => simp at hh
      | i + 2, hh =>
        have := zar_in (ad := ad) (adK := adK) r (n + 2) i v (by simpa using hh)
        rw [show n + (i + 2) = n + 2 + i by omega]
        exact List.mem_cons_of_mem _ this
    have one : ∀ x : Value, zar0 (x :: r) = some x :: zar0 r → ¬ (ztr ad adK x).category = 2 → ((zar0 (x :: r))[i]? = some (some v)) → (n + i, ztr ad adK v) ∈ lv_args n ((x :: r).map (ztr ad adK)) := by
      intro x e hc hh
      rw [e] at hh
      rw [List.map_cons, lv_args, if_neg hc]
      match i, hh with
      | 0, hh => simp at hh; subst hh; exact List.mem_cons_self
      | i + 1, hh =>
        have := zar_in (ad := ad) (adK := adK) r (n + 1) i v (by simpa using hh)
        rw [show n + (i + 1) = n + 1 + i by omega]
        exact List.mem_cons_of_mem _ this
    cases w <;> first | exact two _ rfl rfl rfl h | exact one _ rfl (by simp [ztr, Value.category]) h
theorem zpad_get : ∀ (n : Nat) (L : zL) (i : Nat) (v : Value), (zpad n L)[i]? = some (some v) → L[i]? = some (some v)
  | 0, L, i, v, h => by simp [zpad] at h
  | n + 1, [], 0, v, h => by simp [zpad] at h
  | n + 1, [], i + 1, v, h => by
    have := zpad_get n [] i v (by simpa [zpad] using h)
    simp at this
  | n + 1, w :: r, 0, v, h => by simpa [zpad] using h
  | n + 1, w :: r, i + 1, v, h => by
    have := zpad_get n r i v (by simpa [zpad] using h)
    simpa using this
theorem zar0_mem : ∀ (args : List Value) (i : Nat) (v : Value), (zar0 args)[i]? = some (some v) → v ∈ args
  | [], i, v, h => by simp [zar0] at h
  | w :: r, i, v, h => by
    have two : ∀ x : Value, zar0 (x :: r) = some x :: none :: zar0 r → ((zar0 (x :: r))[i]? = some (some v)) → v ∈ x :: r := by
      intro x e hh
      rw [e] at hh
      match i, hh with
      | 0, hh => simp at hh; subst hh; exact List.mem_cons_self
      | 1, hh => simp at hh
      | i + 2, hh => exact List.mem_cons_of_mem _ (zar0_mem r i v (by simpa using hh))
    have one : ∀ x : Value, zar0 (x :: r) = some x :: zar0 r → ((zar0 (x :: r))[i]? = some (some v)) → v ∈ x :: r := by
      intro x e hh
      rw [e] at hh
      match i, hh with
      | 0, hh => simp at hh; subst hh; exact List.mem_cons_self
      | i + 1, hh => exact List.mem_cons_of_mem _ (zar0_mem r i v (by simpa using hh))
    cases w <;> first | exact two _ rfl h | exact one _ rfl h
/-- A METHOD'S CONTRACT out of a pure run from its entry -/
theorem zMet {G : Nat → zM} {l : Launch} {D j : Nat} {args : List Value} {h : zH} {res : zR} (hAt : zAt G l D j 0 (zpad (G j).2.2.1 (zar0 args)) [] h res) (hy : plainName (G j).1.cls = true) (hlen : (zar0 args).length ≤ (G j).2.2.1) (hw : zwf h) (hv : ∀ v ∈ args, zvv h.1.length v) (Gd : va_G) (cy : Nat → ClassId) (adK adV ad : Nat → Nat) (sz : Nat) :
    Met l (G j).1 (Cond.code (G j).1 (G j).2.1 (G j).2.2.1 (G j).2.2.2.1 :: zGT) (zrm D h res.2) (zPc Gd cy adK adV ad sz args h) (zQ Gd cy adK h.1.length ad (va_A (zws cy ad h) sz) res.1 res.2) (res.2.1.length - h.1.length) (zsz res.2.1 - zsz h.1) (va_A (zws cy ad h) sz) := by
  refine Met.ofW (cc := (G j).2.1) (maxL := (G j).2.2.1) (ret := (G j).2.2.2.1) hy rfl ?_
  intro p e s m args' below meth c s₁ B hml hv'
  obtain ⟨rfl, hsz, hP, hK, hD0⟩ := hv'
  subst hsz
  have hts := atoms_spec (ws := Cond.code (G j).1 (G j).2.1 (G j).2.2.1 (G j).2.2.2.1 :: zGT) B.pre
  have hown : s.vm.findClass (G j).1.cls = some m.cls := findClass_of_methodNamed B.named
  have hnm : meth.name = (G j).1.name := (name_of_methodNamed B.named B.method).1
  have hD := hD0.self (sz := s.heap.size)
  have hl := lv_entry (args.map (ztr ad adK)) (n := (G j).2.2.1) (by rw [zlg_len]; exact hlen)
  rw [lg_entry_eq]
  have hz : zhas ((lg_sl (args.map (ztr ad adK)) ++ List.replicate ((G j).2.2.1 - (lg_sl (args.map (ztr ad adK))).length) Slot.unset).toArray) (G j).2.2.1 ad adK (zpad (G j).2.2.1 (zar0 args)) := by
    refine ⟨hl.1, hl.2.1, fun i v hi => ?_⟩
    have := zar_in (ad := ad) (adK := adK) args 0 i v (zpad_get _ _ _ _ hi)
    rw [Nat.zero_add] at this
    exact hl.2.2 _ this
  have := hAt.2 p e (zrm D h res.2) s m (args.map (ztr ad adK)).toArray below meth c (va_A (zws cy ad h) s.heap.size) Gd cy adK adV ad h.1.length (zsz h.1) ⟨B.exec, B.bytes, B.returns, hml, hown, fun w hw => hts w (List.mem_cons_of_mem _ hw), B.notSynchronized, hnm, hK, fun q hq => Or.inr hq, Nat.le_refl _, Nat.le_refl _⟩ (Nat.le_refl _) (Nat.le_refl _) rfl rfl ad s.heap [] _ (fun _ _ => rfl) hP hD va_S.rf hz hw (fun i v hi => hv v (zar0_mem args i v (zpad_get _ _ _ _ hi))) (fun v hv => by cases hv)
  rw [Nat.sub_self, Nat.sub_self] at this
  exact this
theorem zi_pop {f : List Value → List Value → Option zR} {r : zR} : ∀ (n : Nat) (acc st : List Value), zpop n acc st f = some r → ∃ as t, st = as.reverse ++ t ∧ as.length = n ∧ f (as ++ acc) t = some r
  | 0, acc, st, h => ⟨[], st, rfl, rfl, h⟩
  | n + 1, acc, [], h => by cases h
  | n + 1, acc, v :: st, h => by
    obtain ⟨as, t, e1, e2, e3⟩ := zi_pop n (v :: acc) st h
    refine ⟨as ++ [v], t, ?_, by simp [e2], ?_⟩
    · rw [e1]; simp
    · simpa using e3
theorem zi_kI {o : Option zR} {sh : List zE} {k : Int32 → zTI → zTJ → Option zR} {r : zR} (h : zkI o sh k = some r) : ∃ x h2, o = some (some (.int x), h2) ∧ h2.1 = sh ∧ k x h2.2.1 h2.2.2 = some r := by
  unfold zkI at h; split at h
  · rename_i x h2
    by_cases c : h2.1 = sh
    · rw [if_pos c] at h; exact ⟨x, h2, rfl, c, h⟩
    · rw [if_neg c] at h; cases h
  · cases h
theorem zi_kJ {o : Option zR} {sh : List zE} {k : Int64 → zTI → zTJ → Option zR} {r : zR} (h : zkJ o sh k = some r) : ∃ x h2, o = some (some (.long x), h2) ∧ h2.1 = sh ∧ k x h2.2.1 h2.2.2 = some r := by
  unfold zkJ at h; split at h
  · rename_i x h2
    by_cases c : h2.1 = sh
    · rw [if_pos c] at h; exact ⟨x, h2, rfl, c, h⟩
    · rw [if_neg c] at h; cases h
  · cases h
theorem zi_kV {o : Option zR} {sh : List zE} {k : zTI → zTJ → Option zR} {r : zR} (h : zkV o sh k = some r) : ∃ h2, o = some (none, h2) ∧ h2.1 = sh ∧ k h2.2.1 h2.2.2 = some r := by
  unfold zkV at h; split at h
  · rename_i h2
    by_cases c : h2.1 = sh
    · rw [if_pos c] at h; exact ⟨h2, rfl, c, h⟩
    · rw [if_neg c] at h; cases h
  · cases h
theorem zi_back {G : Nat → zM} {j : Nat} {o : Option zR} {h : zH} {f : List Value → zH → Option zR} {r : zR} (hb : zback G j o h f = some r) : ∃ r0 h2, o = some (r0, h2) ∧ f r0.toList h2 = some r := by
  have re : ∀ h2 : zH, h2.1 = h.1 → (h.1, h2.2.1, h2.2.2) = h2 := fun h2 e => by rw [← e]
  unfold zback at hb
  split at hb
  · split at hb
    · obtain ⟨h2, e1, e2, e3⟩ := zi_kV hb; exact ⟨_, h2, e1, by rw [re h2 e2] at e3; exact e3⟩
    · obtain ⟨x, h2, e1, e2, e3⟩ := zi_kI hb; exact ⟨_, h2, e1, by rw [re h2 e2] at e3; exact e3⟩
    · obtain ⟨x, h2, e1, e2, e3⟩ := zi_kI hb; exact ⟨_, h2, e1, by rw [re h2 e2] at e3; exact e3⟩
    · obtain ⟨x, h2, e1, e2, e3⟩ := zi_kJ hb; exact ⟨_, h2, e1, by rw [re h2 e2] at e3; exact e3⟩
    · cases hb
  · split at hb
    · unfold zcV at hb; split at hb
      · exact ⟨_, _, rfl, hb⟩
      · cases hb
    · unfold zcI at hb; split at hb
      · exact ⟨_, _, rfl, hb⟩
      · cases hb
    · unfold zcI at hb; split at hb
      · exact ⟨_, _, rfl, hb⟩
      · cases hb
    · unfold zcJ at hb; split at hb
      · exact ⟨_, _, rfl, hb⟩
      · cases hb
    · unfold zcA at hb; split at hb
      · exact ⟨_, _, rfl, hb⟩
      · cases hb
    · unfold zcA at hb; split at hb
      · exact ⟨_, _, rfl, hb⟩
      · cases hb
    · cases hb
theorem zi_ask {G : Nat → zM} {S : zO} {D j : Nat} {args : List Value} {h : zH} {r : zR} (hb : zask G S D j args h = some r) : zht (G j) args < D ∧ (zar0 args).length ≤ (G j).2.2.1 ∧ S (zht (G j) args) j 0 (zpad (G j).2.2.1 (zar0 args)) [] h = some r := by
  unfold zask at hb; split at hb
  · rename_i hc
    rw [Bool.and_eq_true] at hc
    exact ⟨Nat.le_of_ble_eq_true hc.1, Nat.le_of_ble_eq_true hc.2, hb⟩
  · cases hb
theorem zwd_sum : ∀ (ad adK : Nat → Nat) (st : List Value), ((st.map (ztr ad adK)).map fun v => v.category).sum = zwd st
  | _, _, [] => rfl
  | ad, adK, v :: r => by
    have := zwd_sum ad adK r
    simp only [List.map_cons, List.sum_cons, zwd, ztr_cat, this]
theorem zgoodGT {y : MethodName} {b : ByteArray} {n : Nat} {r : Option FieldType} (h : Cond.code y b n r ∈ zGT) : GoodIn zGT (Cond.code y b n r :: zGT) := by
  intro w hw
  have hm : w ∈ zGT := by
    rcases List.mem_cons.mp hw with rfl | hw
    · exact h
    · exact hw
  exact ⟨hm, good_of_word (List.mem_filter.mp hm).2⟩
theorem zi_rc {h : zH} {args : List Value} {ks : List Nat} {x : Option zR} {r : zR} (hb : zrc h args ks x = some r) : ∃ q as' e, args = .ref q :: as' ∧ h.1[q]? = some e ∧ zhas1 ks e.1 = true ∧ x = some r := by
  unfold zrc at hb; split at hb
  · obtain ⟨e, h1, h2, h3⟩ := zi_ob hb
    exact ⟨_, _, e, rfl, h1, h2, h3⟩
  · cases hb
section zcalls
variable {G : Nat → zM} {l : Launch} {S : zO} {D j : Nat} {k : zKt} {L : zL} {st : List Value} {h : zH} {res : zR}
/-- behind a call -/
theorem zAt_call {pc j' D' : Nat} {args t : List Value} {r0 : Option Value} {h2 : zH} (hst : st = args.reverse ++ t) (hAt : zAt G l D' j' 0 (zpad (G j').2.2.1 (zar0 args)) [] h (r0, h2)) (hk : zAt G l D j (pc + 3) L (r0.toList ++ t) h2 res) (hlen : (zar0 args).length ≤ (G j').2.2.1) (hy : plainName (G j').1.cls = true)
    (hrun : ∀ (p : Program) (e : Env) (R : Room) (s : State) (m : MethodId) (margs : Array Value) (below : List Frame) (meth : Method) (c : Code) (H : Heap) (locs : List Loc) (cells slots : Nat) (ls : Array Slot) (A : Nat → Prop) (Gd : va_G) (cy : Nat → ClassId) (ad adK adV : Nat → Nat), zC (G j) D p R s m margs meth c A Gd cy adK adV → va_P Gd vwCl (zws cy ad h) H → va_S A s.heap H locs → ls.size = (G j).2.2.1 →
      Met l (G j').1 (Cond.code (G j').1 (G j').2.1 (G j').2.2.1 (G j').2.2.2.1 :: zGT) (zrm D' h h2) (zPc Gd cy adK adV ad H.size args h) (zQ Gd cy adK h.1.length ad (va_A (zws cy ad h) H.size) r0 h2) (h2.1.length - h.1.length) (zsz h2.1 - zsz h.1) (va_A (zws cy ad h) H.size) →
      (∀ U : State, U.heap = H → s.WarmedH U.vm → zPc Gd cy adK adV ad H.size args h (args.map (ztr ad adK)).toArray U) → (cells + (h2.1.length - h.1.length) ≤ R.cells ∧ slots + (zsz h2.1 - zsz h.1) ≤ R.slots) →
      va_Run p l e R s m margs below meth c H locs cells slots (h2.1.length - h.1.length) (zsz h2.1 - zsz h.1) (F0 m pc ls (st.map (ztr ad adK))) (t.map (ztr ad adK)) (zQ Gd cy adK h.1.length ad (va_A (zws cy ad h) H.size) r0 h2 (args.map (ztr ad adK)).toArray) (va_A (zws cy ad h) H.size)) : zAt G l D j pc L st h res := by
  obtain ⟨m1, m2⟩ := hAt.1
  obtain ⟨m3, m4⟩ := hk.1
  dsimp only at m1 m2
  refine ⟨⟨Nat.le_trans m1 m3, Nat.le_trans m2 m4⟩, ?_⟩
  intro p e R s m margs below meth c A Gd cy adK adV ad0 n0 z0 Cx hn hz hcc hss ad H locs ls ha0 hP hD hS hl hw hvL hvS
  have hvA : ∀ v ∈ args, zvv h.1.length v := fun v hv => hvS v (by rw [hst]; exact List.mem_append_left _ (List.mem_reverse.mpr hv))
  have hvT : ∀ v ∈ t, zvv h.1.length v := fun v hv => hvS v (by rw [hst]; exact List.mem_append_right _ hv)
  have hfree : ∀ q, va_A (zws cy ad h) H.size q → A q := by
    intro q hq
    rcases hq with ⟨k2, x, hx⟩ | hq
    · exact hD.2 k2 (q, x) hx
    · exact Cx.2.2.2.2.2.2.2.2.2.1 q (Nat.le_trans hS.1 hq)
  have hM := zMet hAt hy hlen hw hvA Gd cy adK adV ad H.size
  have hpre : ∀ U : State, U.heap = H → s.WarmedH U.vm → zPc Gd cy adK adV ad H.size args h (args.map (ztr ad adK)).toArray U := fun U hU hW => ⟨rfl, by rw [hU], by rw [hU]; exact hP, zKK_warm Cx.2.2.2.2.2.2.2.2.1 hS hU hW hfree, hD.weaken (fun _ _ _ _ => trivial)⟩
  have hr := hrun p e R s m margs below meth c H locs (h.1.length - n0) (zsz h.1 - z0) ls A Gd cy ad adK adV Cx hP hS hl.1 hM hpre ⟨by rw [hcc]; omega, by rw [hss]; omega⟩
  intro T hT X
  obtain ⟨v, st₀, t0, T', L', h0, X', hL', e1, e2, ⟨⟨ad', ha', hv, hP', hD', hw', hvr⟩, hz', hk'⟩, go⟩ := hr T hT X
  rw [h0] at hz' hk'
  cases hv
  have hS' : va_S A s.heap T'.heap (locs ++ L') := by
    refine ⟨Nat.le_trans hS.1 (by rw [e1]; exact hz'), fun q h1 h2 => ?_, fun q hq => ?_⟩
    · rw [e1, hk' q (Nat.lt_of_lt_of_le h1 hS.1) (fun z => h2 (hfree q z))]; exact hS.2.1 q h1 h2
    · rcases List.mem_append.mp hq with hq | hq
      · exact hS.2.2 q hq
      · exact hfree _ (hL' q hq)
  have hvR : ∀ v ∈ r0.toList ++ t, zvv h2.1.length v := by
    intro v hv
    rcases List.mem_append.mp hv with hv | hv
    · cases r0 with
      | none => cases hv
      | some w => rw [List.mem_singleton.mp hv]; exact hvr w rfl
    · exact zvv_le (hvT v hv) m1
  have kk := hk.2 p e R s m margs below meth c A Gd cy adK adV ad0 n0 z0 Cx (by omega) (by omega) hcc hss ad' T'.heap (locs ++ L') ls (fun i hi => by rw [ha' i (by omega)]; exact ha0 i hi) (by rw [e1]; exact hP') (hD'.weaken (fun _ q _ hq => hfree q.1 hq)) hS' (zhas_ext hl ha' hvL) hw' (fun i v q => zvv_le (hvL i v q) m1) hvR
  have hcs : h.1.length - n0 + (h2.1.length - h.1.length) = h2.1.length - n0 := by omega
  have hss2 : zsz h.1 - z0 + (zsz h2.1 - zsz h.1) = zsz h2.1 - z0 := by omega
  rw [hcs, hss2] at X'
  obtain ⟨t2, a1, b1⟩ := kk T' rfl X'
  refine ⟨t2, go t2 ?_, b1⟩
  have hmap : (r0.toList ++ t).map (ztr ad' adK) = (r0.map (ztr ad' adK)).toList ++ t.map (ztr ad adK) := by
    rw [List.map_append, zmtr_ext ha' hvT]
    cases r0 <;> rfl
  rw [hmap] at a1
  exact a1
theorem zrm_R {D D' maxL : Nat} {h h2 : zH} {R : Room} (hD : D' < D) (h1 : D ≤ R.frames) (h2' : 64 * D ≤ R.locals) (hm : maxL ≤ 45) : (zrm D' h h2).frames + 1 ≤ R.frames ∧ 8 + (maxL + 11) + (zrm D' h h2).locals ≤ R.locals := by
  unfold zrm
  dsimp only
  exact ⟨by omega, by omega⟩
set_option maxHeartbeats 4000000 in
/-- calls of own methods -/
theorem zstep_inv (IHS : ∀ D' j' pc L st h r, S D' j' pc L st h = some r → zAt G l D' j' pc L st h r) (IHk : ∀ pc L st h r, k pc L st h = some r → zAt G l D j pc L st h r) {e : zI} (he : zok G (G j) e) (ha : e.2.2.1 < 1000)
    (hns : match e.2.1 with
      | .invokestatic _ => True | .invokevirtual _ => True | .invokespecial _ => True | _ => False)
    (hs : zstep G S D e k L st h = some res) : zAt G l D j e.1 L st h res := by
  obtain ⟨pc, ins, a, b, ks, z, zl, sw⟩ := e
  obtain ⟨hd, hlk⟩ := he
  dsimp only at ha
  have hblt : Nat.blt a 1000 = true := Nat.ble_eq_true_of_le ha
  cases ins <;> first | (exact absurd hns id; done) | skip
  all_goals (unfold zstep at hs; dsimp only at hs; rw [hblt] at hs; dsimp only at hs)
  all_goals (replace hd := hd.resolve_left (by intro q; cases q); dsimp only [zln] at hd; dsimp only [zlk] at hlk; rw [if_pos ha] at hlk)
  case invokestatic =>
    obtain ⟨w1, w2, ⟨w3, w4, w5⟩, w6, w7⟩ := hlk
    obtain ⟨as, t, rfl, hn, hs1⟩ := zi_pop _ _ _ hs
    rw [List.append_nil] at hs1
    obtain ⟨hw8, hs1⟩ := zi_zif hs1
    obtain ⟨r0, h2, e1, hs2⟩ := zi_back hs1
    obtain ⟨hD', hl', e1⟩ := zi_ask e1
    refine zAt_call rfl (IHS _ _ _ _ _ _ _ e1) (IHk _ _ _ _ _ hs2) hl' w7 ?_
    intro p e R s m margs below meth c H locs cells slots ls A Gd cy ad adK adV Cx hP hS hls hM hpre hroom
    have hts := Cx.2.2.2.2.2.1
    refine va_runS (As := as.map (ztr ad adK)) ⟨Cx.1, Cx.2.1, Cx.2.2.2.1, Cx.2.2.2.2.1, hts⟩ hM ⟨callB_of b hts (zgoodGT w3) rfl rfl rfl (hts _ w4) (hts _ w1) w5 (zrm_R hD' Cx.2.2.2.2.2.2.2.2.2.2.1 Cx.2.2.2.2.2.2.2.2.2.2.2 w6), hts _ w2⟩ ⟨zPc_blind, hpre⟩ rfl (by simp [hn]) hls ?_ (lv_room (by rw [zwd_sum]; exact Nat.le_of_ble_eq_true hw8)) hd hroom
    show (as.reverse ++ t).map (ztr ad adK) = _
    rw [List.map_append, List.map_reverse]
  case invokevirtual =>
    obtain ⟨hks, ⟨w3, w4, w5⟩, hb1, w6, w7⟩ := hlk
    obtain ⟨as, t, rfl, hn, hs1⟩ := zi_pop _ _ _ hs
    rw [List.append_nil] at hs1
    obtain ⟨hw8, hs1⟩ := zi_zif hs1
    obtain ⟨q, as', eq, rfl, heq, hkq, hs1⟩ := zi_rc hs1
    · skip
      obtain ⟨r, x, hr, v1, v2, v3, v4⟩ := hks _ (zhas1_mem hkq)
      obtain ⟨r0, h2, e1, hs2⟩ := zi_back hs1
      obtain ⟨hD', hl', e1⟩ := zi_ask e1
      have h12 : eq.1 < 12 := (List.getElem?_eq_some_iff.mp hr).1
      refine zAt_call rfl (IHS _ _ _ _ _ _ _ e1) (IHk _ _ _ _ _ hs2) hl' w7 ?_
      intro p e R s m margs below meth c H locs cells slots ls A Gd cy ad adK adV Cx hP hS hls hM hpre hroom
      have hts := Cx.2.2.2.2.2.1
      have hwq := zws_get (cy := cy) (ad := ad) heq
      rw [zce_ob h12] at hwq
      have hrecv := va_recv Cx.2.2.2.2.2.2.2.2.1.1 hP hr hwq
      have hR := zrm_R (h := h) (h2 := h2) (maxL := (G a).2.2.1) hD' Cx.2.2.2.2.2.2.2.2.2.2.1 Cx.2.2.2.2.2.2.2.2.2.2.2 w6
      have hstk : (F0 m pc ls (((Value.ref q :: as').reverse ++ t).map (ztr ad adK))).stack = (as'.map (ztr ad adK)).reverse ++ .ref (ad q) :: t.map (ztr ad adK) := by
        show ((Value.ref q :: as').reverse ++ t).map (ztr ad adK) = _
        simp [ztr, List.map_reverse]
      have hn2 : (as'.map (ztr ad adK)).length = b - 1 := by
        simp only [List.length_cons] at hn
        simp; omega
      have hwd : 2 * (F0 m pc ls (((Value.ref q :: as').reverse ++ t).map (ztr ad adK))).monitorRoom + ((t.map (ztr ad adK)).map fun v => v.category).sum ≤ 8 := lv_room (by rw [zwd_sum]; exact Nat.le_of_ble_eq_true hw8)
      rcases v4 with ⟨rfl, -⟩ | ⟨v4, v5⟩
      · exact va_runV (C := r.1) (As := as'.map (ztr ad adK)) ⟨Cx.1, Cx.2.1, Cx.2.2.2.1, Cx.2.2.2.2.1, hts⟩ hM ⟨callB_of (b - 1) hts (zgoodGT w3) rfl rfl rfl (hts _ w4) (hts _ v1) w5 hR, hts _ v2, hts _ v3⟩ ⟨zPc_blind, hrecv, hpre⟩ rfl hn2 hls hstk hwd hd hroom
      · refine va_runU (C := r.1) (owner := (G a).1.cls) (x := x) (y := (G a).1) (As := as'.map (ztr ad adK)) ⟨Cx.1, Cx.2.1, Cx.2.2.2.1, Cx.2.2.2.2.1, hts⟩ hM (va_cwU (b - 1) hts ?_ rfl rfl rfl v4 ⟨w5.1, w5.2.1, ?_⟩ hR) ⟨zPc_blind, hrecv, hpre⟩ rfl hn2 hls hstk hwd hd hroom
        · intro w hw
          unfold va_wsU at hw
          have hm : w ∈ zGT := by
            rcases List.mem_append.mp hw with hw | hw
            · simp only [List.mem_cons, List.not_mem_nil, or_false] at hw
              rcases hw with rfl | rfl | rfl | rfl | rfl
              · exact v1
              · exact v5
              · exact v3
              · exact v2
              · exact w4
            · rcases List.mem_cons.mp hw with rfl | hw
              · exact w3
              · exact hw
          exact ⟨hm, good_of_word (List.mem_filter.mp hm).2⟩
        · have : x.desc = (G a).1.desc := by rw [v4]
          rw [this]; exact w5.2.2
  case invokespecial =>
    obtain ⟨i1, i2, i3, i4, ⟨w3, w4, w5⟩, hb1, w6, w7⟩ := hlk
    obtain ⟨as, t, rfl, hn, hs1⟩ := zi_pop _ _ _ hs
    rw [List.append_nil] at hs1
    obtain ⟨hw8, hs1⟩ := zi_zif hs1
    obtain ⟨q, as', eq, rfl, heq, hkq, hs1⟩ := zi_rc hs1
    · skip
      obtain ⟨r0, h2, e1, hs2⟩ := zi_back hs1
      obtain ⟨hD', hl', e1⟩ := zi_ask e1
      refine zAt_call rfl (IHS _ _ _ _ _ _ _ e1) (IHk _ _ _ _ _ hs2) hl' w7 ?_
      intro p e R s m margs below meth c H locs cells slots ls A Gd cy ad adK adV Cx hP hS hls hM hpre hroom
      have hts := Cx.2.2.2.2.2.1
      have hNN := Cx.2.2.2.2.2.2.2.2.1.2.1
      rw [i2] at hM w3
      have hR := zrm_R (h := h) (h2 := h2) (maxL := (G a).2.2.1) hD' Cx.2.2.2.2.2.2.2.2.2.2.1 Cx.2.2.2.2.2.2.2.2.2.2.2 w6
      have hstk : (F0 m pc ls (((Value.ref q :: as').reverse ++ t).map (ztr ad adK))).stack = (as'.map (ztr ad adK)).reverse ++ .ref (ad q) :: t.map (ztr ad adK) := by
        show ((Value.ref q :: as').reverse ++ t).map (ztr ad adK) = _
        simp [ztr, List.map_reverse]
      have hn2 : (as'.map (ztr ad adK)).length = b - 1 := by
        simp only [List.length_cons] at hn
        simp; omega
      have hwd : 2 * (F0 m pc ls (((Value.ref q :: as').reverse ++ t).map (ztr ad adK))).monitorRoom + ((t.map (ztr ad adK)).map fun v => v.category).sum ≤ 8 := lv_room (by rw [zwd_sum]; exact Nat.le_of_ble_eq_true hw8)
      rcases i3 with i3 | ⟨host, i3⟩
      · exact va_runI (As := as'.map (ztr ad adK)) ⟨Cx.1, Cx.2.1, Cx.2.2.2.1, Cx.2.2.2.2.1, hts⟩ hM (cwI (b - 1) hts (zgoodGT w3) rfl rfl rfl (hts _ w4) (hts _ i3) (hts _ i4) i1 w5 hR) ⟨zPc_blind, hpre⟩ rfl hn2 hls hstk hwd hd hroom
      · exact va_runIN (host := host) (As := as'.map (ztr ad adK)) ⟨Cx.1, Cx.2.1, Cx.2.2.2.1, Cx.2.2.2.2.1, hts⟩ hM ⟨va_cnB (b - 1) hts (zgoodGT w3) rfl rfl rfl (hNN.1 _ _ _ _ i3) (hts _ w4) w5 hR, i1, hts _ i4⟩ ⟨zPc_blind, hpre⟩ rfl hn2 hls hstk hwd hd hroom
end zcalls
