/-! ===== String.length and String.charAt of constants ===== -/
theorem zsw626 : Cond.code yJ0_length_8abf5 cJ0_length_8abf5 1 (some .int) ∈ zGT := zGT_mem 626 (by decide +kernel) (by decide +kernel)
theorem zsw636 : Cond.code yJ0_charAt_5068e cJ0_charAt_5068e 2 (some .char) ∈ zGT := zGT_mem 636 (by decide +kernel) (by decide +kernel)
theorem zsw630 : Cond.code yJ0_coder_7d493 cJ0_coder_7d493 1 (some .byte) ∈ zGT := zGT_mem 630 (by decide +kernel) (by decide +kernel)
theorem zsw640 : Cond.code yJ0_isLatin1_aae02 cJ0_isLatin1_aae02 1 (some .boolean) ∈ zGT := zGT_mem 640 (by decide +kernel) (by decide +kernel)
theorem zsw643 : Cond.code yJ1_charAt_3b067 cJ1_charAt_3b067 2 (some .char) ∈ zGT := zGT_mem 643 (by decide +kernel) (by decide +kernel)
theorem zsw646 : Cond.code yJ0_checkIndex_df160 cJ0_checkIndex_df160 2 none ∈ zGT := zGT_mem 646 (by decide +kernel) (by decide +kernel)
theorem zsw651 : Cond.code yJ3_checkIndex_8e157 cJ3_checkIndex_8e157 3 (some .int) ∈ zGT := zGT_mem 651 (by decide +kernel) (by decide +kernel)
theorem zsw158 : Cond.initialized "java/lang/String" ∈ zGT := zGT_mem 158 (by decide +kernel) (by decide +kernel)
theorem zsw159 : Cond.initialized "java/lang/StringLatin1" ∈ zGT := zGT_mem 159 (by decide +kernel) (by decide +kernel)
theorem zsw160 : Cond.initialized "jdk/internal/util/Preconditions" ∈ zGT := zGT_mem 160 (by decide +kernel) (by decide +kernel)
theorem zsw624 : Cond.instanceMethod yJ0_length_8abf5 ∈ zGT := zGT_mem 624 (by decide +kernel) (by decide +kernel)
theorem zsw625 : Cond.selects "java/lang/String" yJ0_length_8abf5 yJ0_length_8abf5 ∈ zGT := zGT_mem 625 (by decide +kernel) (by decide +kernel)
theorem zsw634 : Cond.instanceMethod yJ0_charAt_5068e ∈ zGT := zGT_mem 634 (by decide +kernel) (by decide +kernel)
theorem zsw635 : Cond.selects "java/lang/String" yJ0_charAt_5068e yJ0_charAt_5068e ∈ zGT := zGT_mem 635 (by decide +kernel) (by decide +kernel)
theorem zsw628 : Cond.instanceMethod yJ0_coder_7d493 ∈ zGT := zGT_mem 628 (by decide +kernel) (by decide +kernel)
theorem zsw629 : Cond.selects "java/lang/String" yJ0_coder_7d493 yJ0_coder_7d493 ∈ zGT := zGT_mem 629 (by decide +kernel) (by decide +kernel)
theorem zsw638 : Cond.instanceMethod yJ0_isLatin1_aae02 ∈ zGT := zGT_mem 638 (by decide +kernel) (by decide +kernel)
theorem zsw639 : Cond.selects "java/lang/String" yJ0_isLatin1_aae02 yJ0_isLatin1_aae02 ∈ zGT := zGT_mem 639 (by decide +kernel) (by decide +kernel)
theorem zsw642 : Cond.static yJ1_charAt_3b067 ∈ zGT := zGT_mem 642 (by decide +kernel) (by decide +kernel)
theorem zsw645 : Cond.static yJ0_checkIndex_df160 ∈ zGT := zGT_mem 645 (by decide +kernel) (by decide +kernel)
theorem zsw650 : Cond.static yJ3_checkIndex_8e157 ∈ zGT := zGT_mem 650 (by decide +kernel) (by decide +kernel)
theorem zsw627 : Cond.methodLink "java/lang/String" 335 yJ0_coder_7d493 ∈ zGT := zGT_mem 627 (by decide +kernel) (by decide +kernel)
theorem zsw637 : Cond.methodLink "java/lang/String" 492 yJ0_isLatin1_aae02 ∈ zGT := zGT_mem 637 (by decide +kernel) (by decide +kernel)
theorem zsw641 : Cond.methodLink "java/lang/String" 495 yJ1_charAt_3b067 ∈ zGT := zGT_mem 641 (by decide +kernel) (by decide +kernel)
theorem zsw644 : Cond.methodLink "java/lang/StringLatin1" 9 yJ0_checkIndex_df160 ∈ zGT := zGT_mem 644 (by decide +kernel) (by decide +kernel)
theorem zsw649 : Cond.methodLink "java/lang/String" 1059 yJ3_checkIndex_8e157 ∈ zGT := zGT_mem 649 (by decide +kernel) (by decide +kernel)
theorem zsw631 : Cond.fieldLink "java/lang/String" 38 "java/lang/String" "COMPACT_STRINGS" "Z" ∈ zGT := zGT_mem 631 (by decide +kernel) (by decide +kernel)
theorem zsw647 : Cond.fieldLink "java/lang/String" 1053 "jdk/internal/util/Preconditions" "SIOOBE_FORMATTER" "Ljava/util/function/BiFunction;" ∈ zGT := zGT_mem 647 (by decide +kernel) (by decide +kernel)
theorem zsw2145 : Cond.fieldLink "java/lang/String" 9 "java/lang/String" "value" "[B" ∈ zGT := zGT_mem 2145 (by decide +kernel) (by decide +kernel)
theorem zsw2146 : Cond.fieldLink "java/lang/String" 15 "java/lang/String" "coder" "B" ∈ zGT := zGT_mem 2146 (by decide +kernel) (by decide +kernel)
def zKs (adK adV : Nat → Nat) (U : State) : Prop := vk_S 7 zSl zSb adK adV (fun _ => False) U U.heap ∧ va_Z "java/lang/String" "COMPACT_STRINGS" "Z" (.int 1) (fun _ => False) U U.heap ∧ va_Zq "jdk/internal/util/Preconditions" "SIOOBE_FORMATTER" "Ljava/util/function/BiFunction;" (fun _ => False) U U.heap
theorem zKs_blind {adK adV : Nat → Nat} {av : List Value} : FrameBlind (va_Pc av (zKs adK adV)) := fun a U g mk q => ⟨q.1, vk_S.moved (U := U.calling g mk a) (Vm.Alike.refl U.vm) q.2.1, va_Z.moved (U := U.calling g mk a) (Vm.Alike.refl U.vm) q.2.2.1, va_Zq.moved (U := U.calling g mk a) (Vm.Alike.refl U.vm) q.2.2.2⟩
theorem zKs_warm {adK adV : Nat → Nat} {A : Nat → Prop} {s U : State} {H : Heap} {locs : List Loc} (h : vk_S 7 zSl zSb adK adV A s s.heap ∧ va_Z "java/lang/String" "COMPACT_STRINGS" "Z" (.int 1) A s s.heap ∧ va_Zq "jdk/internal/util/Preconditions" "SIOOBE_FORMATTER" "Ljava/util/function/BiFunction;" A s s.heap) (hS : va_S A s.heap H locs) (hU : U.heap = H) (hW : s.WarmedH U.vm) : zKs adK adV U := by
  obtain ⟨h6, h8, h9⟩ := h
  have hal := hW.alike
  refine ⟨?_, ?_, ?_⟩
  · rw [hU]; exact ((h6.kept hS.2.1).moved hal).narrow (fun _ h => h.elim)
  · rw [hU]; exact ((h8.kept hS.2.1).moved hal).narrow (fun _ h => h.elim)
  · rw [hU]; exact ((h9.kept hS.2.1).moved hal).narrow (fun _ h => h.elim)
def zQs (r : Option Value) : Array Value → State → Outcome → State → Prop := fun _ st oc t => oc = .returned r ∧ t.heap = st.heap
def zRs (f n : Nat) : Room := { frames := f, cells := 0, slots := 0, locals := n }
theorem zs_call {p : Program} {l : Launch} {e : Env} {R : Room} {s : State} {m : MethodId} {args : Array Value} {below : List Frame} {meth : Method} {c : Code} {H : Heap} {locs : List Loc} {cells slots : Nat} {Q : State → Prop} {pc : Nat} {ls : Array Slot} {rest st0 : List Value} {a : Array Value} {r : Option Value} (hr : va_Run p l e R s m args below meth c H locs cells slots 0 0 (F0 m pc ls st0) rest (zQs r a) (fun _ => False))
    (kk : W p l e R s m args below meth c H locs cells slots Q (F0 m (pc + 3) ls (r.toList ++ rest))) : W p l e R s m args below meth c H locs cells slots Q (F0 m pc ls st0) := by
  intro T hT X
  obtain ⟨v, st₀, t, T', L, h0, X', hL, e1, e2, ⟨hv, hh⟩, st⟩ := hr T hT X
  cases hv
  have hL0 : L = [] := by
    cases L with
    | nil => rfl
    | cons q _ => exact (hL q List.mem_cons_self).elim
  subst hL0
  rw [List.append_nil] at X'
  obtain ⟨t2, a1, b1⟩ := kk T' (by rw [e1, hh, h0]) X'
  exact ⟨t2, st t2 a1, b1⟩
theorem zlw0 {ix : Int32} : (0 : Int32) = 0 := rfl
set_option maxHeartbeats 4000000 in
set_option maxRecDepth 100000 in
theorem zs_J0_coder (l : Launch) (adK adV : Nat → Nat) (x : Nat) (hx7 : x < 7) : Met l yJ0_coder_7d493 (Cond.code yJ0_coder_7d493 cJ0_coder_7d493 1 (some .byte) :: zGT) (zRs 0 0) (va_Pc [.ref (adK x)] (zKs adK adV)) (zQs (some (.int 0))) 0 0 (fun _ => False) := by
  refine Met.ofW (cc := cJ0_coder_7d493) (maxL := 1) (ret := (some .byte)) (by decide +kernel) rfl ?_
  intro p e s m args below meth c s₁ B hml hv
  obtain ⟨rfl, hKs⟩ := hv
  have hx := B.exec
  have hb := B.bytes
  have hr := B.returns
  have hlocks := B.notSynchronized
  have hts0 := atoms_spec (ws := Cond.code yJ0_coder_7d493 cJ0_coder_7d493 1 (some .byte) :: zGT) B.pre
  have hts : ∀ w ∈ zGT, w.before _ s = true := fun w hw => hts0 w (List.mem_cons_of_mem _ hw)
  have hown : s.vm.findClass "java/lang/String" = some m.cls := findClass_of_methodNamed B.named
  have hS : va_S (fun _ => False) s.heap s.heap [] := va_S.rf
  have hl := lv_entry ([.ref (adK x)]) (n := 1) (Nat.le_of_ble_eq_true rfl)
  rw [lg_entry_eq]
  generalize (lg_sl ([.ref (adK x)]) ++ List.replicate (1 - (lg_sl ([.ref (adK x)])).length) Slot.unset).toArray = ls at hl ⊢
  have hl : lv_has ls 1 [(0, .ref (adK x))] := hl
  refine va_gets hx hb hKs.2.1 hS hown (hts _ zsw631) (fun _ h => h) (show decode cJ0_coder_7d493 0 = .ok (.getstatic 38, 3) by decide +kernel) ?_
  refine lv_if_eq (tgt := 13) hx hb (show decode cJ0_coder_7d493 3 = .ok (.ifCond .eq 10, 3) by decide +kernel) (by decide) (fun q => absurd q (by decide)) (fun _ => ?_)
  refine lv_aload_n hx hb (show decode cJ0_coder_7d493 6 = .ok (.aload_n 0, 1) by decide +kernel) rfl (lv_at hl 0 rfl) ?_
  refine vk_getf hx hb (hKs.1.1 x hx7).2.1 hS hown (hts _ zsw2146) (fun _ h => h) (show decode cJ0_coder_7d493 7 = .ok (.getfield 15, 3) by decide +kernel) ?_
  refine lv_goto (tgt := 14) hx hb (show decode cJ0_coder_7d493 10 = .ok (.goto 4, 3) by decide +kernel) (by decide) ?_
  exact W.zret hx hb hr (by decide +kernel) (fun t ht hW => ⟨rfl, ht⟩) (fun _ h => by cases h) (show decode cJ0_coder_7d493 14 = .ok (.ireturn, 1) by decide +kernel) hlocks
set_option maxHeartbeats 4000000 in
set_option maxRecDepth 100000 in
theorem zs_J0_isLatin1 (l : Launch) (adK adV : Nat → Nat) (x : Nat) (hx7 : x < 7) : Met l yJ0_isLatin1_aae02 (Cond.code yJ0_isLatin1_aae02 cJ0_isLatin1_aae02 1 (some .boolean) :: zGT) (zRs 0 0) (va_Pc [.ref (adK x)] (zKs adK adV)) (zQs (some (.int 1))) 0 0 (fun _ => False) := by
  refine Met.ofW (cc := cJ0_isLatin1_aae02) (maxL := 1) (ret := (some .boolean)) (by decide +kernel) rfl ?_
  intro p e s m args below meth c s₁ B hml hv
  obtain ⟨rfl, hKs⟩ := hv
  have hx := B.exec
  have hb := B.bytes
  have hr := B.returns
  have hlocks := B.notSynchronized
  have hts0 := atoms_spec (ws := Cond.code yJ0_isLatin1_aae02 cJ0_isLatin1_aae02 1 (some .boolean) :: zGT) B.pre
  have hts : ∀ w ∈ zGT, w.before _ s = true := fun w hw => hts0 w (List.mem_cons_of_mem _ hw)
  have hown : s.vm.findClass "java/lang/String" = some m.cls := findClass_of_methodNamed B.named
  have hS : va_S (fun _ => False) s.heap s.heap [] := va_S.rf
  have hl := lv_entry ([.ref (adK x)]) (n := 1) (Nat.le_of_ble_eq_true rfl)
  rw [lg_entry_eq]
  generalize (lg_sl ([.ref (adK x)]) ++ List.replicate (1 - (lg_sl ([.ref (adK x)])).length) Slot.unset).toArray = ls at hl ⊢
  have hl : lv_has ls 1 [(0, .ref (adK x))] := hl
  refine va_gets hx hb hKs.2.1 hS hown (hts _ zsw631) (fun _ h => h) (show decode cJ0_isLatin1_aae02 0 = .ok (.getstatic 38, 3) by decide +kernel) ?_
  refine lv_if_eq (tgt := 17) hx hb (show decode cJ0_isLatin1_aae02 3 = .ok (.ifCond .eq 14, 3) by decide +kernel) (by decide) (fun q => absurd q (by decide)) (fun _ => ?_)
  refine lv_aload_n hx hb (show decode cJ0_isLatin1_aae02 6 = .ok (.aload_n 0, 1) by decide +kernel) rfl (lv_at hl 0 rfl) ?_
  refine vk_getf hx hb (hKs.1.1 x hx7).2.1 hS hown (hts _ zsw2146) (fun _ h => h) (show decode cJ0_isLatin1_aae02 7 = .ok (.getfield 15, 3) by decide +kernel) ?_
  refine lv_if_ne (tgt := 17) hx hb (show decode cJ0_isLatin1_aae02 10 = .ok (.ifCond .ne 7, 3) by decide +kernel) (by decide) (fun q => absurd rfl q) (fun _ => ?_)
  refine lv_iconst (v := 1) hx hb (show decode cJ0_isLatin1_aae02 13 = .ok (.iconst 1, 1) by decide +kernel) (by decide) ?_
  refine lv_goto (tgt := 18) hx hb (show decode cJ0_isLatin1_aae02 14 = .ok (.goto 4, 3) by decide +kernel) (by decide) ?_
  exact W.zret hx hb hr (by decide +kernel) (fun t ht hW => ⟨rfl, ht⟩) (fun _ h => by cases h) (show decode cJ0_isLatin1_aae02 18 = .ok (.ireturn, 1) by decide +kernel) hlocks
set_option maxHeartbeats 4000000 in
set_option maxRecDepth 100000 in
theorem zs_J3_checkIndex (l : Launch) (adK adV : Nat → Nat) (i n : Int32) (v : Value) (h0 : ¬ i < 0) (h1 : i < n) (hv1 : v = .null ∨ ∃ q, v = .ref q) : Met l yJ3_checkIndex_8e157 (Cond.code yJ3_checkIndex_8e157 cJ3_checkIndex_8e157 3 (some .int) :: zGT) (zRs 0 0) (va_Pc [.int i, .int n, v] (zKs adK adV)) (zQs (some (.int i))) 0 0 (fun _ => False) := by
  refine Met.ofW (cc := cJ3_checkIndex_8e157) (maxL := 3) (ret := (some .int)) (by decide +kernel) rfl ?_
  intro p e s m args below meth c s₁ B hml hv
  obtain ⟨rfl, hKs⟩ := hv
  have hx := B.exec
  have hb := B.bytes
  have hr := B.returns
  have hlocks := B.notSynchronized
  have hts0 := atoms_spec (ws := Cond.code yJ3_checkIndex_8e157 cJ3_checkIndex_8e157 3 (some .int) :: zGT) B.pre
  have hts : ∀ w ∈ zGT, w.before _ s = true := fun w hw => hts0 w (List.mem_cons_of_mem _ hw)
  have hown : s.vm.findClass "jdk/internal/util/Preconditions" = some m.cls := findClass_of_methodNamed B.named
  have hS : va_S (fun _ => False) s.heap s.heap [] := va_S.rf
  have hl := lv_entry ([.int i, .int n, v]) (n := 3) (by rcases hv1 with rfl | ⟨q, rfl⟩ <;> exact Nat.le_of_ble_eq_true rfl)
  rw [lg_entry_eq]
  generalize (lg_sl ([.int i, .int n, v]) ++ List.replicate (3 - (lg_sl ([.int i, .int n, v])).length) Slot.unset).toArray = ls at hl ⊢
  have hl : lv_has ls 3 [(0, .int i), (1, .int n), (2, v)] := by rcases hv1 with rfl | ⟨q, rfl⟩ <;> exact hl
  refine lv_iload_n hx hb (show decode cJ3_checkIndex_8e157 0 = .ok (.iload_n 0, 1) by decide +kernel) rfl (lv_at hl 0 rfl) ?_
  refine lv_if_lt (tgt := 9) hx hb (show decode cJ3_checkIndex_8e157 1 = .ok (.ifCond .lt 8, 3) by decide +kernel) (by decide) (fun q => absurd q h0) (fun _ => ?_)
  refine lv_iload_n hx hb (show decode cJ3_checkIndex_8e157 4 = .ok (.iload_n 0, 1) by decide +kernel) rfl (lv_at hl 0 rfl) ?_
  refine lv_iload_n hx hb (show decode cJ3_checkIndex_8e157 5 = .ok (.iload_n 1, 1) by decide +kernel) rfl (lv_at hl 1 rfl) ?_
  refine lv_icmp_lt (tgt := 16) hx hb (show decode cJ3_checkIndex_8e157 6 = .ok (.if_icmp .lt 10, 3) by decide +kernel) (by decide) (fun _ => ?_) (fun q => absurd h1 q)
  refine lv_iload_n hx hb (show decode cJ3_checkIndex_8e157 16 = .ok (.iload_n 0, 1) by decide +kernel) rfl (lv_at hl 0 rfl) ?_
  exact W.iret hx hb hr (fun t ht hW => ⟨rfl, ht⟩) (fun _ h => by cases h) (show decode cJ3_checkIndex_8e157 17 = .ok (.ireturn, 1) by decide +kernel) hlocks
set_option maxHeartbeats 4000000 in
set_option maxRecDepth 100000 in
theorem zs_J0_checkIndex (l : Launch) (adK adV : Nat → Nat) (i n : Int32) (h0 : ¬ i < 0) (h1 : i < n) : Met l yJ0_checkIndex_df160 (Cond.code yJ0_checkIndex_df160 cJ0_checkIndex_df160 2 none :: zGT) (zRs 1 24) (va_Pc [.int i, .int n] (zKs adK adV)) (zQs (none)) 0 0 (fun _ => False) := by
  refine Met.ofW (cc := cJ0_checkIndex_df160) (maxL := 2) (ret := none) (by decide +kernel) rfl ?_
  intro p e s m args below meth c s₁ B hml hv
  obtain ⟨rfl, hKs⟩ := hv
  have hx := B.exec
  have hb := B.bytes
  have hr := B.returns
  have hlocks := B.notSynchronized
  have hts0 := atoms_spec (ws := Cond.code yJ0_checkIndex_df160 cJ0_checkIndex_df160 2 none :: zGT) B.pre
  have hts : ∀ w ∈ zGT, w.before _ s = true := fun w hw => hts0 w (List.mem_cons_of_mem _ hw)
  have hown : s.vm.findClass "java/lang/String" = some m.cls := findClass_of_methodNamed B.named
  have hS : va_S (fun _ => False) s.heap s.heap [] := va_S.rf
  have hl := lv_entry ([.int i, .int n]) (n := 2) (Nat.le_of_ble_eq_true rfl)
  rw [lg_entry_eq]
  generalize (lg_sl ([.int i, .int n]) ++ List.replicate (2 - (lg_sl ([.int i, .int n])).length) Slot.unset).toArray = ls at hl ⊢
  have hl : lv_has ls 2 [(0, .int i), (1, .int n)] := hl
  have go : ∀ v : Value, (v = .null ∨ ∃ q, v = .ref q) → va_Z "jdk/internal/util/Preconditions" "SIOOBE_FORMATTER" "Ljava/util/function/BiFunction;" v (fun _ => False) s s.heap → W p l e (headSpec (Cond.code yJ0_checkIndex_df160 cJ0_checkIndex_df160 2 none :: zGT) (zRs 1 24)).room s m ([Value.int i, .int n] : List Value).toArray below meth c s.heap [] 0 0 (MQ below (zQs none) ([Value.int i, .int n] : List Value).toArray s 0 0 (fun _ => False)) (F0 m 0 ls []) := by
    intro v hv hZ
    refine lv_iload_n hx hb (show decode cJ0_checkIndex_df160 0 = .ok (.iload_n 0, 1) by decide +kernel) rfl (lv_at hl 0 rfl) ?_
    refine lv_iload_n hx hb (show decode cJ0_checkIndex_df160 1 = .ok (.iload_n 1, 1) by decide +kernel) rfl (lv_at hl 1 rfl) ?_
    refine va_gets hx hb hZ hS hown (hts _ zsw647) (fun _ h => h) (show decode cJ0_checkIndex_df160 2 = .ok (.getstatic 1053, 3) by decide +kernel) ?_
    refine zs_call (r := some (.int i)) (rest := []) (va_runS (As := [.int i, .int n, v]) ⟨hx, hb, hml, hown, hts⟩ (zs_J3_checkIndex l adK adV i n v h0 h1 hv) ⟨callB_of 3 hts (zgoodGT zsw651) rfl rfl rfl (hts _ zsw160) (hts _ zsw649) (by decide +kernel) ⟨Nat.le_of_ble_eq_true rfl, Nat.le_of_ble_eq_true rfl⟩, hts _ zsw650⟩ ⟨zKs_blind, fun U hU hW => ⟨rfl, zKs_warm hKs hS hU hW⟩⟩ rfl rfl hl.1 rfl (lv_room (Nat.le_of_ble_eq_true rfl)) (show decode cJ0_checkIndex_df160 5 = .ok (.invokestatic 1059, 3) by decide +kernel) ⟨Nat.le_refl _, Nat.le_refl _⟩) ?_
    refine lv_pop hx hb (show decode cJ0_checkIndex_df160 8 = .ok (.pop, 1) by decide +kernel) rfl ?_
    exact W.vret hx hb hr (fun t ht hW => ⟨rfl, ht⟩) (fun _ h => by cases h) (show decode cJ0_checkIndex_df160 9 = .ok (.return_, 1) by decide +kernel) hlocks
  rcases hKs.2.2 with hZ | ⟨q, hZ⟩
  · exact go _ (Or.inl rfl) hZ
  · exact go _ (Or.inr ⟨q, rfl⟩) hZ
theorem zsl_eq : ∀ x, x < 7 → zSl.getD x 0 = zsl x := by decide +kernel
theorem zsl_small : ∀ x, x < 7 → zsl x < 1000 := by decide +kernel
theorem zin_lt {i : Int32} {n : Nat} (h : vp_in i n) (hn : n < 1000) : i < Int32.ofNat n := by
  obtain ⟨h0, h1⟩ := vp_in_iff.mp h
  have : (Int32.ofNat n).toInt = (n : Int) := nI_toInt (n := n) (by omega)
  rw [Int32.lt_iff_toInt_lt, this]; exact h1
theorem zch_all : ∀ x, x < 7 → ∀ k, k < zsl x → (((zSb.getD x []).getD k 0 &&& 255).toUInt32 % 65536).toInt32 = zch x k ∧ narrow .char (.int (zch x k)) = .int (zch x k) := by decide +kernel
theorem zch_k {x : Nat} {i : Int32} (hi : vp_in i (zsl x)) : i.toNatClampNeg < zsl x := Nat.not_le.mp fun q => hi (Or.inr q)
theorem zch_c (x : Nat) (hx : x < 7) (i : Int32) (hi : vp_in i (zsl x)) : (((zSb.getD x []).getD i.toNatClampNeg 0 &&& 255).toUInt32 % 65536).toInt32 = zch x i.toNatClampNeg := (zch_all x hx _ (zch_k hi)).1
theorem zch_n (x : Nat) (hx : x < 7) (i : Int32) (hi : vp_in i (zsl x)) : narrow .char (.int (zch x i.toNatClampNeg)) = .int (zch x i.toNatClampNeg) := (zch_all x hx _ (zch_k hi)).2
set_option maxHeartbeats 4000000 in
set_option maxRecDepth 100000 in
theorem zs_J1_charAt (l : Launch) (adK adV : Nat → Nat) (x : Nat) (hx7 : x < 7) (i : Int32) (hi : vp_in i (zsl x)) : Met l yJ1_charAt_3b067 (Cond.code yJ1_charAt_3b067 cJ1_charAt_3b067 2 (some .char) :: zGT) (zRs 2 48) (va_Pc [.ref (adV x), .int i] (zKs adK adV)) (zQs (some (.int (zch x i.toNatClampNeg)))) 0 0 (fun _ => False) := by
  refine Met.ofW (cc := cJ1_charAt_3b067) (maxL := 2) (ret := (some .char)) (by decide +kernel) rfl ?_
  intro p e s m args below meth c s₁ B hml hv
  obtain ⟨rfl, hKs⟩ := hv
  have hx := B.exec
  have hb := B.bytes
  have hr := B.returns
  have hlocks := B.notSynchronized
  have hts0 := atoms_spec (ws := Cond.code yJ1_charAt_3b067 cJ1_charAt_3b067 2 (some .char) :: zGT) B.pre
  have hts : ∀ w ∈ zGT, w.before _ s = true := fun w hw => hts0 w (List.mem_cons_of_mem _ hw)
  have hown : s.vm.findClass "java/lang/StringLatin1" = some m.cls := findClass_of_methodNamed B.named
  have hS : va_S (fun _ => False) s.heap s.heap [] := va_S.rf
  have hl := lv_entry ([.ref (adV x), .int i]) (n := 2) (Nat.le_of_ble_eq_true rfl)
  rw [lg_entry_eq]
  generalize (lg_sl ([.ref (adV x), .int i]) ++ List.replicate (2 - (lg_sl ([.ref (adV x), .int i])).length) Slot.unset).toArray = ls at hl ⊢
  have hl : lv_has ls 2 [(0, .ref (adV x)), (1, .int i)] := hl
  have h0 : ¬ i < 0 := fun q => hi (Or.inl q)
  have hlen : zSl.getD x 0 = zsl x := zsl_eq x hx7
  have hT := (hKs.1.1 x hx7).2.2.2
  rw [hlen] at hT
  have h1 : i < Int32.ofNat (zsl x) := zin_lt hi (zsl_small x hx7)
  refine lv_iload_n hx hb (show decode cJ1_charAt_3b067 0 = .ok (.iload_n 1, 1) by decide +kernel) rfl (lv_at hl 1 rfl) ?_
  refine lv_aload_n hx hb (show decode cJ1_charAt_3b067 1 = .ok (.aload_n 0, 1) by decide +kernel) rfl (lv_at hl 0 rfl) ?_
  refine va_tlen hx hb hT hS rfl (show decode cJ1_charAt_3b067 2 = .ok (.arraylength, 1) by decide +kernel) ?_
  refine zs_call (r := none) (rest := []) (va_runS (As := [.int i, .int (Int32.ofNat (zsl x))]) ⟨hx, hb, hml, hown, hts⟩ (zs_J0_checkIndex l adK adV i (Int32.ofNat (zsl x)) h0 h1) ⟨callB_of 2 hts (zgoodGT zsw646) rfl rfl rfl (hts _ zsw158) (hts _ zsw644) (by decide +kernel) ⟨Nat.le_of_ble_eq_true rfl, Nat.le_of_ble_eq_true rfl⟩, hts _ zsw645⟩ ⟨zKs_blind, fun U hU hW => ⟨rfl, zKs_warm hKs hS hU hW⟩⟩ rfl rfl hl.1 rfl (lv_room (Nat.le_of_ble_eq_true rfl)) (show decode cJ1_charAt_3b067 3 = .ok (.invokestatic 9, 3) by decide +kernel) ⟨Nat.le_refl _, Nat.le_refl _⟩) ?_
  refine lv_aload_n hx hb (show decode cJ1_charAt_3b067 6 = .ok (.aload_n 0, 1) by decide +kernel) rfl (lv_at hl 0 rfl) ?_
  refine lv_iload_n hx hb (show decode cJ1_charAt_3b067 7 = .ok (.iload_n 1, 1) by decide +kernel) rfl (lv_at hl 1 rfl) ?_
  refine va_tb hx hb hT hS hi rfl (show decode cJ1_charAt_3b067 8 = .ok (.baload, 1) by decide +kernel) ?_
  refine lv_sipush (v := 255) hx hb (show decode cJ1_charAt_3b067 9 = .ok (.sipush 255, 3) by decide +kernel) (by decide +kernel) ?_
  refine lv_iand hx hb (show decode cJ1_charAt_3b067 12 = .ok (.iand, 1) by decide +kernel) ?_
  refine lv_i2c hx hb (show decode cJ1_charAt_3b067 13 = .ok (.i2c, 1) by decide +kernel) (zch_c x hx7 i hi) ?_
  exact W.zret (ty := .char) hx hb hr (zch_n x hx7 i hi) (fun t ht hW => ⟨rfl, ht⟩) (fun _ h => by cases h) (show decode cJ1_charAt_3b067 14 = .ok (.ireturn, 1) by decide +kernel) hlocks
set_option maxHeartbeats 4000000 in
set_option maxRecDepth 100000 in
theorem zs_J0_length (l : Launch) (adK adV : Nat → Nat) (x : Nat) (hx7 : x < 7) : Met l yJ0_length_8abf5 (Cond.code yJ0_length_8abf5 cJ0_length_8abf5 1 (some .int) :: zGT) (zRs 1 24) (va_Pc [.ref (adK x)] (zKs adK adV)) (zQs (some (.int (Int32.ofNat (zsl x))))) 0 0 (fun _ => False) := by
  refine Met.ofW (cc := cJ0_length_8abf5) (maxL := 1) (ret := (some .int)) (by decide +kernel) rfl ?_
  intro p e s m args below meth c s₁ B hml hv
  obtain ⟨rfl, hKs⟩ := hv
  have hx := B.exec
  have hb := B.bytes
  have hr := B.returns
  have hlocks := B.notSynchronized
  have hts0 := atoms_spec (ws := Cond.code yJ0_length_8abf5 cJ0_length_8abf5 1 (some .int) :: zGT) B.pre
  have hts : ∀ w ∈ zGT, w.before _ s = true := fun w hw => hts0 w (List.mem_cons_of_mem _ hw)
  have hown : s.vm.findClass "java/lang/String" = some m.cls := findClass_of_methodNamed B.named
  have hS : va_S (fun _ => False) s.heap s.heap [] := va_S.rf
  have hl := lv_entry ([.ref (adK x)]) (n := 1) (Nat.le_of_ble_eq_true rfl)
  rw [lg_entry_eq]
  generalize (lg_sl ([.ref (adK x)]) ++ List.replicate (1 - (lg_sl ([.ref (adK x)])).length) Slot.unset).toArray = ls at hl ⊢
  have hl : lv_has ls 1 [(0, .ref (adK x))] := hl
  have hlen : zSl.getD x 0 = zsl x := zsl_eq x hx7
  have hT := (hKs.1.1 x hx7).2.2.2
  rw [hlen] at hT
  refine lv_aload_n hx hb (show decode cJ0_length_8abf5 0 = .ok (.aload_n 0, 1) by decide +kernel) rfl (lv_at hl 0 rfl) ?_
  refine vk_getf hx hb (hKs.1.1 x hx7).2.2.1 hS hown (hts _ zsw2145) (fun _ h => h) (show decode cJ0_length_8abf5 1 = .ok (.getfield 9, 3) by decide +kernel) ?_
  refine va_tlen hx hb hT hS rfl (show decode cJ0_length_8abf5 4 = .ok (.arraylength, 1) by decide +kernel) ?_
  refine lv_aload_n hx hb (show decode cJ0_length_8abf5 5 = .ok (.aload_n 0, 1) by decide +kernel) rfl (lv_at hl 0 rfl) ?_
  refine zs_call (r := some (.int 0)) (rest := [.int (Int32.ofNat (zsl x))]) (va_runV (C := "java/lang/String") (As := []) ⟨hx, hb, hml, hown, hts⟩ (zs_J0_coder l adK adV x hx7) ⟨callB_of 0 hts (zgoodGT zsw630) rfl rfl rfl (hts _ zsw158) (hts _ zsw627) (by decide +kernel) ⟨Nat.le_of_ble_eq_true rfl, Nat.le_of_ble_eq_true rfl⟩, hts _ zsw628, hts _ zsw629⟩ ⟨zKs_blind, vk_recv hKs.1 hx7 hS, fun U hU hW => ⟨rfl, zKs_warm hKs hS hU hW⟩⟩ rfl rfl hl.1 rfl (lv_room (Nat.le_of_ble_eq_true rfl)) (show decode cJ0_length_8abf5 6 = .ok (.invokevirtual 335, 3) by decide +kernel) ⟨Nat.le_refl _, Nat.le_refl _⟩) ?_
  refine lv_ishr hx hb (show decode cJ0_length_8abf5 9 = .ok (.ishr, 1) by decide +kernel) ?_
  refine W.eq (g2 := F0 m 10 ls [.int (Int32.ofNat (zsl x))]) (by rw [sb_shr0]) ?_
  exact W.iret hx hb hr (fun t ht hW => ⟨rfl, ht⟩) (fun _ h => by cases h) (show decode cJ0_length_8abf5 10 = .ok (.ireturn, 1) by decide +kernel) hlocks
set_option maxHeartbeats 4000000 in
set_option maxRecDepth 100000 in
theorem zs_J0_charAt (l : Launch) (adK adV : Nat → Nat) (x : Nat) (hx7 : x < 7) (i : Int32) (hi : vp_in i (zsl x)) : Met l yJ0_charAt_5068e (Cond.code yJ0_charAt_5068e cJ0_charAt_5068e 2 (some .char) :: zGT) (zRs 3 72) (va_Pc [.ref (adK x), .int i] (zKs adK adV)) (zQs (some (.int (zch x i.toNatClampNeg)))) 0 0 (fun _ => False) := by
  refine Met.ofW (cc := cJ0_charAt_5068e) (maxL := 2) (ret := (some .char)) (by decide +kernel) rfl ?_
  intro p e s m args below meth c s₁ B hml hv
  obtain ⟨rfl, hKs⟩ := hv
  have hx := B.exec
  have hb := B.bytes
  have hr := B.returns
  have hlocks := B.notSynchronized
  have hts0 := atoms_spec (ws := Cond.code yJ0_charAt_5068e cJ0_charAt_5068e 2 (some .char) :: zGT) B.pre
  have hts : ∀ w ∈ zGT, w.before _ s = true := fun w hw => hts0 w (List.mem_cons_of_mem _ hw)
  have hown : s.vm.findClass "java/lang/String" = some m.cls := findClass_of_methodNamed B.named
  have hS : va_S (fun _ => False) s.heap s.heap [] := va_S.rf
  have hl := lv_entry ([.ref (adK x), .int i]) (n := 2) (Nat.le_of_ble_eq_true rfl)
  rw [lg_entry_eq]
  generalize (lg_sl ([.ref (adK x), .int i]) ++ List.replicate (2 - (lg_sl ([.ref (adK x), .int i])).length) Slot.unset).toArray = ls at hl ⊢
  have hl : lv_has ls 2 [(0, .ref (adK x)), (1, .int i)] := hl
  refine lv_aload_n hx hb (show decode cJ0_charAt_5068e 0 = .ok (.aload_n 0, 1) by decide +kernel) rfl (lv_at hl 0 rfl) ?_
  refine zs_call (r := some (.int 1)) (rest := []) (va_runV (C := "java/lang/String") (As := []) ⟨hx, hb, hml, hown, hts⟩ (zs_J0_isLatin1 l adK adV x hx7) ⟨callB_of 0 hts (zgoodGT zsw640) rfl rfl rfl (hts _ zsw158) (hts _ zsw637) (by decide +kernel) ⟨Nat.le_of_ble_eq_true rfl, Nat.le_of_ble_eq_true rfl⟩, hts _ zsw638, hts _ zsw639⟩ ⟨zKs_blind, vk_recv hKs.1 hx7 hS, fun U hU hW => ⟨rfl, zKs_warm hKs hS hU hW⟩⟩ rfl rfl hl.1 rfl (lv_room (Nat.le_of_ble_eq_true rfl)) (show decode cJ0_charAt_5068e 1 = .ok (.invokevirtual 492, 3) by decide +kernel) ⟨Nat.le_refl _, Nat.le_refl _⟩) ?_
  refine lv_if_eq (tgt := 16) hx hb (show decode cJ0_charAt_5068e 4 = .ok (.ifCond .eq 12, 3) by decide +kernel) (by decide) (fun q => absurd q (by decide)) (fun _ => ?_)
  refine lv_aload_n hx hb (show decode cJ0_charAt_5068e 7 = .ok (.aload_n 0, 1) by decide +kernel) rfl (lv_at hl 0 rfl) ?_
  refine vk_getf hx hb (hKs.1.1 x hx7).2.2.1 hS hown (hts _ zsw2145) (fun _ h => h) (show decode cJ0_charAt_5068e 8 = .ok (.getfield 9, 3) by decide +kernel) ?_
  refine lv_iload_n hx hb (show decode cJ0_charAt_5068e 11 = .ok (.iload_n 1, 1) by decide +kernel) rfl (lv_at hl 1 rfl) ?_
  refine zs_call (r := some (.int (zch x i.toNatClampNeg))) (rest := []) (va_runS (As := [.ref (adV x), .int i]) ⟨hx, hb, hml, hown, hts⟩ (zs_J1_charAt l adK adV x hx7 i hi) ⟨callB_of 2 hts (zgoodGT zsw643) rfl rfl rfl (hts _ zsw159) (hts _ zsw641) (by decide +kernel) ⟨Nat.le_of_ble_eq_true rfl, Nat.le_of_ble_eq_true rfl⟩, hts _ zsw642⟩ ⟨zKs_blind, fun U hU hW => ⟨rfl, zKs_warm hKs hS hU hW⟩⟩ rfl rfl hl.1 rfl (lv_room (Nat.le_of_ble_eq_true rfl)) (show decode cJ0_charAt_5068e 12 = .ok (.invokestatic 495, 3) by decide +kernel) ⟨Nat.le_refl _, Nat.le_refl _⟩) ?_
  exact W.zret (ty := .char) hx hb hr (zch_n x hx7 i hi) (fun t ht hW => ⟨rfl, ht⟩) (fun _ h => by cases h) (show decode cJ0_charAt_5068e 15 = .ok (.ireturn, 1) by decide +kernel) hlocks
theorem zlen_row : zLenRow := by
  intro l p e R s m args below meth c H locs cells slots Q ls A Gd cy adK adV M D pc i x rest Cx hD hS hls hx7 hsum hc hs w hd kk
  have hts := Cx.2.2.2.2.2.1
  have hKK := Cx.2.2.2.2.2.2.2.2.1
  have h1 := Cx.2.2.2.2.2.2.2.2.2.2.1
  have h2 := Cx.2.2.2.2.2.2.2.2.2.2.2
  exact zs_call (r := some (.int (Int32.ofNat (zsl x)))) (rest := rest) (va_runV (C := "java/lang/String") (As := []) ⟨Cx.1, Cx.2.1, Cx.2.2.2.1, Cx.2.2.2.2.1, hts⟩ (zs_J0_length l adK adV x hx7) ⟨callB_of 0 hts (zgoodGT zsw626) rfl rfl rfl (hts _ zsw158) (hts _ w) (by decide +kernel) ⟨by show 1 + 1 ≤ _; omega, by show 8 + (1 + 11) + 24 ≤ _; omega⟩, hts _ zsw624, hts _ zsw625⟩ ⟨zKs_blind, vk_recv hKK.2.2.1 hx7 hS, fun U hU hW => ⟨rfl, zKs_warm ⟨hKK.2.2.1, hKK.2.2.2.2.1, hKK.2.2.2.2.2⟩ hS hU hW⟩⟩ rfl rfl hls rfl (lv_room hsum) hd ⟨hc, hs⟩) (kk H locs rfl hS)
theorem zch_row : zChRow := by
  intro l p e R s m args below meth c H locs cells slots Q ls A Gd cy adK adV M D pc i x ix rest Cx hD hS hls hx7 hi hsum hc hs w hd kk
  have hts := Cx.2.2.2.2.2.1
  have hKK := Cx.2.2.2.2.2.2.2.2.1
  have h1 := Cx.2.2.2.2.2.2.2.2.2.2.1
  have h2 := Cx.2.2.2.2.2.2.2.2.2.2.2
  exact zs_call (r := some (.int (zch x ix.toNatClampNeg))) (rest := rest) (va_runV (C := "java/lang/String") (As := [.int ix]) ⟨Cx.1, Cx.2.1, Cx.2.2.2.1, Cx.2.2.2.2.1, hts⟩ (zs_J0_charAt l adK adV x hx7 ix hi) ⟨callB_of 1 hts (zgoodGT zsw636) rfl rfl rfl (hts _ zsw158) (hts _ w) (by decide +kernel) ⟨by show 3 + 1 ≤ _; omega, by show 8 + (2 + 11) + 72 ≤ _; omega⟩, hts _ zsw634, hts _ zsw635⟩ ⟨zKs_blind, vk_recv hKK.2.2.1 hx7 hS, fun U hU hW => ⟨rfl, zKs_warm ⟨hKK.2.2.1, hKK.2.2.2.2.1, hKK.2.2.2.2.2⟩ hS hU hW⟩⟩ rfl rfl hls rfl (lv_room hsum) hd ⟨hc, hs⟩) (kk H locs rfl hS)
/-- SOUND, of the program itself -/
theorem zsnd (l : Launch) : ∀ D j pc L st h r, zS zG D j pc L st h = some r → zAt zG l D j pc L st h r := zsound l zgood_all zcl_ok zcl_df zharr zpw zlen_row zch_row
