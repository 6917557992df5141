/-! ===== the law's body over any relation of the two heaps ===== -/
def R_law : String := "BookBargeLaw"
section zlaw
variable {p : Program} {l : Launch} {e : Env} {s : State} {m : MethodId} {below : List Frame} {meth : Method} {c : Code} {b L : Nat} {xs : Nat → Int32} {Gd : va_G} {cy : Nat → ClassId} {adK adV : Nat → Nat}
def zApart (w1 w2 : va_W) : Prop := ∀ (i j : Nat) (p q : Nat × va_E), w1[i]? = some p → w2[j]? = some q → p.1 ≠ q.1
theorem zApart.sym {w1 w2 : va_W} (h : zApart w1 w2) : zApart w2 w1 := fun i j p q hp hq e => h j i q p hq hp e.symm
set_option maxHeartbeats 4000000 in
/-- a call of a method of one of the two systems -/
theorem zl_call {R : String} (hR : R = R_law) (hx : p.tables.exec = Jvm.exec) (hb : c.code = code) (hml : c.maxLocals = 4) (hown : s.vm.findClass R = some m.cls) (hts : ∀ w ∈ zGT, w.before #[Value.ref b] s = true) (hK : zKK Gd cy adK adV (fun q : Nat => s.heap.size ≤ q) s)
    {j D : Nat} {as rest : List Value} {h h2 h' : zH} {r0 : Option Value} {ad ad2 : Nat → Nat} {H : Heap} {locs : List Loc} {cells slots : Nat} {Q : State → Prop} {ls : Array Slot} {pc : Nat} {stk : List Value}
    (hAt : zAt zG l D j 0 (zpad (zG j).2.2.1 (zar0 (.ref 0 :: as))) [] h (r0, h')) (hpn : plainName (zG j).1.cls = true) (hlen : (zar0 (.ref 0 :: as)).length ≤ (zG j).2.2.1) (has : ∀ v ∈ as, zvv h.1.length v) (hn0 : 0 < h.1.length) (hw : zwf h)
    (hP1 : va_P Gd vwCl (zws cy ad h) H) (hP2 : va_P Gd vwCl (zws cy ad2 h2) H) (hD1 : va_D (fun q : Nat => s.heap.size ≤ q) (zws cy ad h)) (hdis : zApart (zws cy ad h) (zws cy ad2 h2)) (hS : va_S (fun q : Nat => s.heap.size ≤ q) s.heap H locs)
    (hrun : Met l (zG j).1 (Cond.code (zG j).1 (zG j).2.1 (zG j).2.2.1 (zG j).2.2.2.1 :: zGT) (zrm D h h') (zPc Gd cy adK adV ad H.size (.ref 0 :: as) h) (zQ Gd cy adK h.1.length ad (va_A (zws cy ad h) H.size) r0 h') (h'.1.length - h.1.length) (zsz h'.1 - zsz h.1) (va_A (zws cy ad h) H.size) →
      (∀ U : State, U.heap = H → s.WarmedH U.vm → zPc Gd cy adK adV ad H.size (.ref 0 :: as) h ((Value.ref 0 :: as).map (ztr ad adK)).toArray U) →
      va_Run p l e room_1 s m #[Value.ref b] below meth c H locs cells slots (h'.1.length - h.1.length) (zsz h'.1 - zsz h.1) (F0 m pc ls stk) rest (zQ Gd cy adK h.1.length ad (va_A (zws cy ad h) H.size) r0 h' ((Value.ref 0 :: as).map (ztr ad adK)).toArray) (va_A (zws cy ad h) H.size))
    (kk : ∀ (ad' : Nat → Nat) (H1 : Heap) (locs1 : List Loc), (∀ i, i < h.1.length → ad' i = ad i) → va_P Gd vwCl (zws cy ad' h') H1 → va_P Gd vwCl (zws cy ad2 h2) H1 → va_D (fun q : Nat => s.heap.size ≤ q) (zws cy ad' h') → zApart (zws cy ad' h') (zws cy ad2 h2) → zwf h' → va_S (fun q : Nat => s.heap.size ≤ q) s.heap H1 locs1 →
      W p l e room_1 s m #[Value.ref b] below meth c H1 locs1 (cells + (h'.1.length - h.1.length)) (slots + (zsz h'.1 - zsz h.1)) Q (F0 m (pc + 3) ls ((r0.map (ztr ad' adK)).toList ++ rest))) :
    W p l e room_1 s m #[Value.ref b] below meth c H locs cells slots Q (F0 m pc ls stk) := by
  have hA : ∀ q : Nat, s.heap.size ≤ q → (fun q : Nat => s.heap.size ≤ q) q := fun _ h => h
  have hfree : ∀ q, va_A (zws cy ad h) H.size q → (fun q : Nat => s.heap.size ≤ q) q := by
    intro q hq
    rcases hq with ⟨k2, x, hx⟩ | hq
    · exact hD1.2 k2 (q, x) hx
    · exact Nat.le_trans hS.1 hq
  have hvA : ∀ v ∈ Value.ref 0 :: as, zvv h.1.length v := fun v hv => by
    rcases List.mem_cons.mp hv with rfl | hv
    · exact zvv_r hn0
    · exact has v hv
  have hM := zMet hAt hpn hlen hw hvA Gd cy adK adV ad H.size
  have hpre : ∀ U : State, U.heap = H → s.WarmedH U.vm → zPc Gd cy adK adV ad H.size (.ref 0 :: as) h ((Value.ref 0 :: as).map (ztr ad adK)).toArray U := fun U hU hW => ⟨rfl, by rw [hU], by rw [hU]; exact hP1, zKK_warm hK hS hU hW hfree, hD1.weaken (fun _ _ _ _ => trivial)⟩
  intro T hT X
  obtain ⟨v, st₀, t0, T', L', h0, X', hL', e1, e2, ⟨⟨ad', ha', hv, hP', hD', hw', hvr⟩, hz', hk'⟩, go⟩ := hrun hM hpre T hT X
  rw [h0] at hz' hk'
  cases hv
  have hS' : va_S (fun q : Nat => s.heap.size ≤ q) s.heap T'.heap (locs ++ L') := by
    refine ⟨Nat.le_trans hS.1 (by rw [e1]; exact hz'), fun q h1 h2 => ?_, fun q hq => ?_⟩
    · rw [e1, hk' q (Nat.lt_of_lt_of_le h1 hS.1) (fun z => h2 (hfree q z))]; exact hS.2.1 q h1 h2
    · rcases List.mem_append.mp hq with hq | hq
      · exact hS.2.2 q hq
      · exact hfree _ (hL' q hq)
  have hnot : ∀ (i : Nat) (q : Nat × va_E), (zws cy ad2 h2)[i]? = some q → q.1 < H.size ∧ ¬ va_A (zws cy ad h) H.size q.1 := by
    intro i q hq
    have hlt := (hP2 i q hq).lt
    refine ⟨hlt, fun z => ?_⟩
    rcases z with ⟨k2, x, hx⟩ | z
    · exact hdis k2 i (q.1, x) q hx hq rfl
    · omega
  have hP2' : va_P Gd vwCl (zws cy ad2 h2) T'.heap := hP2.kept (fun i q hq => by rw [e1]; exact hk' q.1 (hnot i q hq).1 (hnot i q hq).2)
  have hdis' : zApart (zws cy ad' h') (zws cy ad2 h2) := fun i k x q hx hq he => (hnot k q hq).2 (he ▸ hD'.2 i x hx)
  obtain ⟨t2, a1, b1⟩ := kk ad' T'.heap (locs ++ L') ha' (by rw [e1]; exact hP') hP2' (hD'.weaken (fun _ q _ hq => hfree q.1 hq)) hdis' hw' hS' T' rfl X'
  exact ⟨t2, go t2 a1, b1⟩
theorem zroom_1 {D n : Nat} {h h' : zH} (hD : D ≤ 100) (hm : n ≤ 45) : (zrm D h h').frames + 1 ≤ room_1.frames ∧ 8 + (n + 11) + (zrm D h h').locals ≤ room_1.locals := by
  unfold zrm room_1; dsimp only; exact ⟨by omega, by omega⟩
set_option maxHeartbeats 4000000 in
theorem zl_callV (hx : p.tables.exec = Jvm.exec) (hb : c.code = code) (hml : c.maxLocals = 4) (hown : s.vm.findClass R_law = some m.cls) (hts : ∀ w ∈ zGT, w.before #[Value.ref b] s = true) (hK : zKK Gd cy adK adV (fun q : Nat => s.heap.size ≤ q) s)
    (j kd n : Nat) {D : Nat} {as rest : List Value} {h h2 h' : zH} {r0 : Int32} {ad ad2 : Nat → Nat} {H : Heap} {locs : List Loc} {cells slots : Nat} {Q : State → Prop} {ls : Array Slot} {pc idx : Nat} {r : vw_C} {rf : Nat → Option Nat} {n0 : Nat}
    (hS0 : zS zG D j 0 (zpad (zG j).2.2.1 (zar0 (.ref 0 :: as))) [] h = some (some (.int r0), h')) (hDD : D ≤ 100) (hpn : plainName (zG j).1.cls = true) (hlen : (zar0 (.ref 0 :: as)).length ≤ (zG j).2.2.1) (has : ∀ v ∈ as, ∃ x, v = .int x) (he0 : h.1[0]? = some (kd, n0, rf)) (hkd : kd < 12) (hr : vwCl[kd]? = some r) (hw : zwf h)
    (hn : as.length = n) (w1 : Cond.methodLink R_law idx (zG j).1 ∈ zGT) (w2 : Cond.instanceMethod (zG j).1 ∈ zGT) (w3 : Cond.selects r.1 (zG j).1 (zG j).1 ∈ zGT) (hcal : zcal (zG j) n) (hm : (zG j).2.2.1 ≤ 45) (hls : ls.size = 4) (hrest : (rest.map fun v => v.category).sum ≤ 8) (hd : decode code pc = .ok (.invokevirtual idx, 3))
    (hP1 : va_P Gd vwCl (zws cy ad h) H) (hP2 : va_P Gd vwCl (zws cy ad2 h2) H) (hD1 : va_D (fun q : Nat => s.heap.size ≤ q) (zws cy ad h)) (hdis : zApart (zws cy ad h) (zws cy ad2 h2)) (hS : va_S (fun q : Nat => s.heap.size ≤ q) s.heap H locs)
    (hroom : cells + (h'.1.length - h.1.length) ≤ room_1.cells ∧ slots + (zsz h'.1 - zsz h.1) ≤ room_1.slots)
    (kk : h.1.length ≤ h'.1.length → zsz h.1 ≤ zsz h'.1 → ∀ (ad' : Nat → Nat) (H1 : Heap) (locs1 : List Loc), (∀ i, i < h.1.length → ad' i = ad i) → va_P Gd vwCl (zws cy ad' h') H1 → va_P Gd vwCl (zws cy ad2 h2) H1 → va_D (fun q : Nat => s.heap.size ≤ q) (zws cy ad' h') → zApart (zws cy ad' h') (zws cy ad2 h2) → zwf h' → va_S (fun q : Nat => s.heap.size ≤ q) s.heap H1 locs1 →
      W p l e room_1 s m #[Value.ref b] below meth c H1 locs1 (cells + (h'.1.length - h.1.length)) (slots + (zsz h'.1 - zsz h.1)) Q (F0 m (pc + 3) ls (.int r0 :: rest))) :
    W p l e room_1 s m #[Value.ref b] below meth c H locs cells slots Q (F0 m pc ls (as.reverse ++ .ref (ad 0) :: rest)) := by
  have hAt := zsnd l _ _ _ _ _ _ _ hS0
  have hlt : 0 < h.1.length := (List.getElem?_eq_some_iff.mp he0).1
  have hasv : ∀ v ∈ as, zvv h.1.length v := fun v hv => by obtain ⟨x, rfl⟩ := has v hv; exact zvv_i
  have hmap : as.map (ztr ad adK) = as := by
    conv => rhs; rw [← List.map_id as]
    exact List.map_congr_left fun v hv => by obtain ⟨x, rfl⟩ := has v hv; rfl
  refine zl_call (R := R_law) rfl hx hb hml hown hts hK hAt hpn hlen hasv hlt hw hP1 hP2 hD1 hdis hS ?_ (kk hAt.1.1 hAt.1.2)
  intro hM hpre
  have hwq := zws_get (cy := cy) (ad := ad) he0
  rw [zce_ob hkd] at hwq
  have hm1 : (Value.ref 0 :: as).map (ztr ad adK) = Value.ref (ad 0) :: as := by rw [List.map_cons, hmap]; rfl
  rw [hm1] at hpre ⊢
  exact va_runV (C := r.1) (As := as) ⟨hx, hb, hml, hown, hts⟩ hM ⟨callB_of n hts (zgoodGT hcal.1) rfl rfl rfl (hts _ hcal.2.1) (hts _ w1) hcal.2.2 (zroom_1 hDD hm), hts _ w2, hts _ w3⟩ ⟨zPc_blind, va_recv hK.1 hP1 hr hwq, hpre⟩ rfl hn hls rfl (lv_room hrest) hd hroom
end zlaw
