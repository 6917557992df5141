/-! ===== the law over any relation of the two heaps (printed by gen_law2.py) ===== -/

theorem zW_eq {p : Program} {l : Launch} {e : Env} {R : Room} {s : State} {m : MethodId} {args : Array Value} {below : List Frame} {meth : Method} {c : Code} {H : Heap} {locs : List Loc} {a a' d d' : Nat} {Q : State → Prop} {g : JFrame} (h : W p l e R s m args below meth c H locs a d Q g) (h1 : a = a') (h2 : d = d') : W p l e R s m args below meth c H locs a' d' Q g := by
  subst h1; subst h2; exact h
def zlF (p : Program) (s : State) (m : MethodId) (meth : Method) (c : Code) (b L : Nat) (xs : Nat → Int32) (Gd : va_G) (cy : Nat → ClassId) (adK adV : Nat → Nat) : Prop :=
  p.tables.exec = Jvm.exec ∧ c.code = code ∧ meth.sig.returnType = ret ∧ c.maxLocals = 4 ∧ s.vm.findClass R_law = some m.cls ∧ (∀ w ∈ zGT, w.before #[Value.ref b] s = true) ∧ va_X b L xs s s.heap ∧ b < s.heap.size ∧ meth.locks = false ∧ zKK Gd cy adK adV (fun q : Nat => s.heap.size ≤ q) s
section zlaw2
variable {p : Program} {l : Launch} {e : Env} {s : State} {m : MethodId} {below : List Frame} {meth : Method} {c : Code} {b L : Nat} {xs : Nat → Int32} {Gd : va_G} {cy : Nat → ClassId} {adK adV : Nat → Nat} {Rel : Nat → zH → zH → Prop}
def zHd (p : Program) (l : Launch) (e : Env) (s : State) (m : MethodId) (below : List Frame) (meth : Method) (c : Code) (b : Nat) (Gd : va_G) (cy : Nat → ClassId) (Rel : Nat → zH → zH → Prop) (n i pc : Nat) : Prop := ∀ (hx hm : zH) (adx adm : Nat → Nat) (H : Heap) (locs : List Loc) (ls : Array Slot), Rel n hx hm → zwf hx → zwf hm → va_P Gd vwCl (zws cy adx hx) H → va_P Gd vwCl (zws cy adm hm) H → va_D (fun q : Nat => s.heap.size ≤ q) (zws cy adx hx) → va_D (fun q : Nat => s.heap.size ≤ q) (zws cy adm hm) → zApart (zws cy adx hx) (zws cy adm hm) → va_S (fun q : Nat => s.heap.size ≤ q) s.heap H locs → lv_has ls 4 [(0, .ref b), (1, .ref (adx 0)), (2, .ref (adm 0)), (3, .int (nI i))] →
  W p l e room_1 s m #[Value.ref b] below meth c H locs (hx.1.length + hm.1.length) (zsz hx.1 + zsz hm.1) (lw_Z below #[Value.ref b] s) (F0 m pc ls [])
theorem zl_argA (F : zlF p s m meth c b L xs Gd cy adK adV) {H : Heap} {locs : List Loc} {cells slots : Nat} {Q : State → Prop} {ls : Array Slot} {pc i : Nat} {rest : List Value} {q1 q2 : Nat} (hl : lv_has ls 4 [(0, .ref b), (1, .ref q1), (2, .ref q2), (3, .int (nI i))]) (d0 : decode code pc = .ok (.aload_n 0, 1)) (d1 : decode code (pc + 1) = .ok (.iload_n 3, 1))
    (kk : W p l e room_1 s m #[Value.ref b] below meth c H locs cells slots Q (F0 m (pc + 2) ls (.int (nI i) :: .ref b :: rest))) : W p l e room_1 s m #[Value.ref b] below meth c H locs cells slots Q (F0 m pc ls rest) := by
  obtain ⟨hx, hb, hr, hml, hown, hts, hX, hbl, hlocks, hK⟩ := F
  refine lv_aload_n hx hb d0 rfl (lv_at hl 0 rfl) ?_
  exact lv_iload_n hx hb d1 rfl (lv_at hl 3 rfl) kk
theorem zl_argB (F : zlF p s m meth c b L xs Gd cy adK adV) {H : Heap} {locs : List Loc} {cells slots : Nat} {Q : State → Prop} {ls : Array Slot} {pc i k : Nat} {y : Int32} (hk : y = nI k) {rest : List Value} (hS : va_S (fun q : Nat => s.heap.size ≤ q) s.heap H locs) (hi : i + k < L) (hL : L ≤ 3584) (d0 : decode code pc = .ok (.iadd, 1)) (d1 : decode code (pc + 1) = .ok (.iaload, 1))
    (kk : W p l e room_1 s m #[Value.ref b] below meth c H locs cells slots Q (F0 m (pc + 2) ls (.int (xs (i + k)) :: rest))) : W p l e room_1 s m #[Value.ref b] below meth c H locs cells slots Q (F0 m pc ls (.int y :: .int (nI i) :: .ref b :: rest)) := by
  obtain ⟨hx, hb, hr, hml, hown, hts, hX, hbl, hlocks, hK⟩ := F
  subst hk
  refine lv_iadd hx hb d0 ?_
  rw [nI_add]
  refine va_sld hx hb hX hbl (Nat.not_le.mpr hbl) hS (vp_in_nI hi (by omega)) d1 ?_
  rw [ztnn (by omega)]
  exact kk
theorem zl_bool (F : zlF p s m meth c b L xs Gd cy adK adV) {H : Heap} {locs : List Loc} {cells slots : Nat} {Q : State → Prop} {ls : Array Slot} {pc : Nat} {y : Int32} {rest : List Value} (d0 : decode code pc = .ok (.ifCond .eq 7, 3)) (d1 : decode code (pc + 3) = .ok (.iconst 1, 1)) (d2 : decode code (pc + 4) = .ok (.goto 4, 3)) (d3 : decode code (pc + 7) = .ok (.iconst 0, 1))
    (kk : W p l e room_1 s m #[Value.ref b] below meth c H locs cells slots Q (F0 m (pc + 8) ls (.int (if y = 0 then 0 else 1) :: rest))) : W p l e room_1 s m #[Value.ref b] below meth c H locs cells slots Q (F0 m pc ls (.int y :: rest)) := by
  obtain ⟨hx, hb, hr, hml, hown, hts, hX, hbl, hlocks, hK⟩ := F
  refine lv_if_eq (tgt := pc + 7) hx hb d0 (by omega) (fun z => ?_) (fun z => ?_)
  · rw [if_pos z] at kk
    exact lv_iconst (v := 0) hx hb d3 (by decide) kk
  · rw [if_neg z] at kk
    refine lv_iconst (v := 1) hx hb d1 (by decide) ?_
    exact lv_goto (tgt := pc + 8) hx hb d2 (by omega) kk

/-- feed -/
theorem zk0x1 : Cond.methodLink R_law 13 zm115.1 ∈ zGT := zGT_mem 564 (by decide +kernel) (by decide +kernel)
theorem zk0x2 : Cond.instanceMethod zm115.1 ∈ zGT := zGT_mem 565 (by decide +kernel) (by decide +kernel)
theorem zk0x3 : Cond.selects "BookBarge" zm115.1 zm115.1 ∈ zGT := zGT_mem 566 (by decide +kernel) (by decide +kernel)
theorem zk0x4 : zcal zm115 5 := ⟨zGT_mem 567 (by decide +kernel) (by decide +kernel), zGT_mem 143 (by decide +kernel) (by decide +kernel), by decide +kernel⟩
theorem zk0m1 : Cond.methodLink R_law 17 zm159.1 ∈ zGT := zGT_mem 1536 (by decide +kernel) (by decide +kernel)
theorem zk0m2 : Cond.instanceMethod zm159.1 ∈ zGT := zGT_mem 1537 (by decide +kernel) (by decide +kernel)
theorem zk0m3 : Cond.selects "BookBargeModel" zm159.1 zm159.1 ∈ zGT := zGT_mem 1538 (by decide +kernel) (by decide +kernel)
theorem zk0m4 : zcal zm159 5 := ⟨zGT_mem 1539 (by decide +kernel) (by decide +kernel), zGT_mem 154 (by decide +kernel) (by decide +kernel), by decide +kernel⟩
set_option maxHeartbeats 4000000 in
theorem zl_c0 (F : zlF p s m meth c b L xs Gd cy adK adV) (hRB : zRBr Rel) (ho : zo0 Rel) (hL : L ≤ 3584) {n : Nat} (hn : 7 * n + 7 ≤ L) (K : zHd p l e s m below meth c b Gd cy Rel (n + 1) (7 * n) 1274) : zHd p l e s m below meth c b Gd cy Rel n (7 * n) 184 := by
  intro hx hm adx adm H locs ls R wx wm Px Pm Dx Dm dis S hl
  obtain ⟨r, hx', hm', ex, em, R'⟩ := ho n hx hm R (xs (7 * n + 1)) (xs (7 * n + 2)) (xs (7 * n + 3)) (xs (7 * n + 4)) (xs (7 * n + 5))
  have bx := (zsnd l _ _ _ _ _ _ _ ex).1
  have bm := (zsnd l _ _ _ _ _ _ _ em).1
  dsimp only at bx bm
  obtain ⟨-, ⟨nx, rx, x0⟩, ⟨nm, rm, m0⟩, -⟩ := hRB _ _ _ R
  obtain ⟨hB1, hB2⟩ := (hRB _ _ _ R').1 (by omega)
  refine lv_aload_n F.1 F.2.1 zd_184 rfl (lv_at hl 1 rfl) ?_
  refine zl_argA F hl zd_185 zd_186 ?_
  refine lv_iconst (v := 1) F.1 F.2.1 zd_187 (by decide) ?_
  refine zl_argB (k := 1) F rfl S (by omega) hL zd_188 zd_189 ?_
  refine zl_argA F hl zd_190 zd_191 ?_
  refine lv_iconst (v := 2) F.1 F.2.1 zd_192 (by decide) ?_
  refine zl_argB (k := 2) F rfl S (by omega) hL zd_193 zd_194 ?_
  refine zl_argA F hl zd_195 zd_196 ?_
  refine lv_iconst (v := 3) F.1 F.2.1 zd_197 (by decide) ?_
  refine zl_argB (k := 3) F rfl S (by omega) hL zd_198 zd_199 ?_
  refine zl_argA F hl zd_200 zd_201 ?_
  refine lv_iconst (v := 4) F.1 F.2.1 zd_202 (by decide) ?_
  refine zl_argB (k := 4) F rfl S (by omega) hL zd_203 zd_204 ?_
  refine zl_argA F hl zd_205 zd_206 ?_
  refine lv_iconst (v := 5) F.1 F.2.1 zd_207 (by decide) ?_
  refine zl_argB (k := 5) F rfl S (by omega) hL zd_208 zd_209 ?_
  refine zl_callV F.1 F.2.1 F.2.2.2.1 F.2.2.2.2.1 F.2.2.2.2.2.1 F.2.2.2.2.2.2.2.2.2 115 10 5 (as := [.int (xs (7 * n + 1)), .int (xs (7 * n + 2)), .int (xs (7 * n + 3)), .int (xs (7 * n + 4)), .int (xs (7 * n + 5))]) (rest := []) (h := hx) (h2 := hm) (h' := hx') (ad := adx) (ad2 := adm) ex (by decide) (by decide +kernel) (Nat.le_of_ble_eq_true rfl) (fun v hv => by simp only [List.mem_cons, List.not_mem_nil, or_false] at hv; rcases hv with rfl | rfl | rfl | rfl | rfl <;> exact ⟨_, rfl⟩) x0 (by decide) (r := (RX11, TX11, 17)) rfl wx rfl zk0x1 zk0x2 zk0x3 zk0x4 (by decide) hl.1 (Nat.le_of_ble_eq_true rfl) zd_210 Px Pm Dx dis S ⟨by have zr := zroom; show _ ≤ room_1.cells; omega, by have zr := zroom; show _ ≤ room_1.slots; omega⟩ ?_
  intro _ _ adx' H1 locs1 ea Px1 Pm1 Dx1 dis1 wx1 S
  refine lv_aload_n F.1 F.2.1 zd_213 rfl (lv_at hl 2 rfl) ?_
  refine zl_argA F hl zd_214 zd_215 ?_
  refine lv_iconst (v := 1) F.1 F.2.1 zd_216 (by decide) ?_
  refine zl_argB (k := 1) F rfl S (by omega) hL zd_217 zd_218 ?_
  refine zl_argA F hl zd_219 zd_220 ?_
  refine lv_iconst (v := 2) F.1 F.2.1 zd_221 (by decide) ?_
  refine zl_argB (k := 2) F rfl S (by omega) hL zd_222 zd_223 ?_
  refine zl_argA F hl zd_224 zd_225 ?_
  refine lv_iconst (v := 3) F.1 F.2.1 zd_226 (by decide) ?_
  refine zl_argB (k := 3) F rfl S (by omega) hL zd_227 zd_228 ?_
  refine zl_argA F hl zd_229 zd_230 ?_
  refine lv_iconst (v := 4) F.1 F.2.1 zd_231 (by decide) ?_
  refine zl_argB (k := 4) F rfl S (by omega) hL zd_232 zd_233 ?_
  refine zl_argA F hl zd_234 zd_235 ?_
  refine lv_iconst (v := 5) F.1 F.2.1 zd_236 (by decide) ?_
  refine zl_argB (k := 5) F rfl S (by omega) hL zd_237 zd_238 ?_
  refine zl_callV F.1 F.2.1 F.2.2.2.1 F.2.2.2.2.1 F.2.2.2.2.2.1 F.2.2.2.2.2.2.2.2.2 159 11 5 (as := [.int (xs (7 * n + 1)), .int (xs (7 * n + 2)), .int (xs (7 * n + 3)), .int (xs (7 * n + 4)), .int (xs (7 * n + 5))]) (rest := [.int r]) (h := hm) (h2 := hx') (h' := hm') (ad := adm) (ad2 := adx') em (by decide) (by decide +kernel) (Nat.le_of_ble_eq_true rfl) (fun v hv => by simp only [List.mem_cons, List.not_mem_nil, or_false] at hv; rcases hv with rfl | rfl | rfl | rfl | rfl <;> exact ⟨_, rfl⟩) m0 (by decide) (r := (RX12, TX12, 39)) rfl wm rfl zk0m1 zk0m2 zk0m3 zk0m4 (by decide) hl.1 (Nat.le_of_ble_eq_true rfl) zd_239 Pm1 Px1 Dm dis1.sym S ⟨by have zr := zroom; show _ ≤ room_1.cells; omega, by have zr := zroom; show _ ≤ room_1.slots; omega⟩ ?_
  intro _ _ adm' H2 locs2 eb Pm2 Px2 Dm2 dis2 wm2 S
  refine lv_icmp_eq (tgt := 1274) F.1 F.2.1 zd_242 (by decide) (fun _ => ?_) (fun q => absurd rfl q)
  refine zW_eq (K hx' hm' adx' adm' H2 locs2 ls R' wx1 wm2 Px2 Pm2 Dx1 Dm2 dis2.sym S ?_) (by omega) (by omega)
  rw [ea 0 (List.getElem?_eq_some_iff.mp x0).1, eb 0 (List.getElem?_eq_some_iff.mp m0).1]
  exact hl
/-- end -/
theorem zk1x1 : Cond.methodLink R_law 18 zm117.1 ∈ zGT := zGT_mem 572 (by decide +kernel) (by decide +kernel)
theorem zk1x2 : Cond.instanceMethod zm117.1 ∈ zGT := zGT_mem 573 (by decide +kernel) (by decide +kernel)
theorem zk1x3 : Cond.selects "BookBarge" zm117.1 zm117.1 ∈ zGT := zGT_mem 574 (by decide +kernel) (by decide +kernel)
theorem zk1x4 : zcal zm117 1 := ⟨zGT_mem 575 (by decide +kernel) (by decide +kernel), zGT_mem 143 (by decide +kernel) (by decide +kernel), by decide +kernel⟩
theorem zk1m1 : Cond.methodLink R_law 22 zm160.1 ∈ zGT := zGT_mem 1544 (by decide +kernel) (by decide +kernel)
theorem zk1m2 : Cond.instanceMethod zm160.1 ∈ zGT := zGT_mem 1545 (by decide +kernel) (by decide +kernel)
theorem zk1m3 : Cond.selects "BookBargeModel" zm160.1 zm160.1 ∈ zGT := zGT_mem 1546 (by decide +kernel) (by decide +kernel)
theorem zk1m4 : zcal zm160 1 := ⟨zGT_mem 1547 (by decide +kernel) (by decide +kernel), zGT_mem 154 (by decide +kernel) (by decide +kernel), by decide +kernel⟩
set_option maxHeartbeats 4000000 in
theorem zl_c1 (F : zlF p s m meth c b L xs Gd cy adK adV) (hRB : zRBr Rel) (ho : zo1 Rel) (hL : L ≤ 3584) {n : Nat} (hn : 7 * n + 7 ≤ L) (K : zHd p l e s m below meth c b Gd cy Rel (n + 1) (7 * n) 1274) : zHd p l e s m below meth c b Gd cy Rel n (7 * n) 247 := by
  intro hx hm adx adm H locs ls R wx wm Px Pm Dx Dm dis S hl
  obtain ⟨r, hx', hm', ex, em, R'⟩ := ho n hx hm R (xs (7 * n + 1))
  have bx := (zsnd l _ _ _ _ _ _ _ ex).1
  have bm := (zsnd l _ _ _ _ _ _ _ em).1
  dsimp only at bx bm
  obtain ⟨-, ⟨nx, rx, x0⟩, ⟨nm, rm, m0⟩, -⟩ := hRB _ _ _ R
  obtain ⟨hB1, hB2⟩ := (hRB _ _ _ R').1 (by omega)
  refine lv_aload_n F.1 F.2.1 zd_247 rfl (lv_at hl 1 rfl) ?_
  refine zl_argA F hl zd_248 zd_249 ?_
  refine lv_iconst (v := 1) F.1 F.2.1 zd_250 (by decide) ?_
  refine zl_argB (k := 1) F rfl S (by omega) hL zd_251 zd_252 ?_
  refine zl_callV F.1 F.2.1 F.2.2.2.1 F.2.2.2.2.1 F.2.2.2.2.2.1 F.2.2.2.2.2.2.2.2.2 117 10 1 (as := [.int (xs (7 * n + 1))]) (rest := []) (h := hx) (h2 := hm) (h' := hx') (ad := adx) (ad2 := adm) ex (by decide) (by decide +kernel) (Nat.le_of_ble_eq_true rfl) (fun v hv => by simp only [List.mem_cons, List.not_mem_nil, or_false] at hv; subst hv; exact ⟨_, rfl⟩) x0 (by decide) (r := (RX11, TX11, 17)) rfl wx rfl zk1x1 zk1x2 zk1x3 zk1x4 (by decide) hl.1 (Nat.le_of_ble_eq_true rfl) zd_253 Px Pm Dx dis S ⟨by have zr := zroom; show _ ≤ room_1.cells; omega, by have zr := zroom; show _ ≤ room_1.slots; omega⟩ ?_
  intro _ _ adx' H1 locs1 ea Px1 Pm1 Dx1 dis1 wx1 S
  refine lv_aload_n F.1 F.2.1 zd_256 rfl (lv_at hl 2 rfl) ?_
  refine zl_argA F hl zd_257 zd_258 ?_
  refine lv_iconst (v := 1) F.1 F.2.1 zd_259 (by decide) ?_
  refine zl_argB (k := 1) F rfl S (by omega) hL zd_260 zd_261 ?_
  refine zl_callV F.1 F.2.1 F.2.2.2.1 F.2.2.2.2.1 F.2.2.2.2.2.1 F.2.2.2.2.2.2.2.2.2 160 11 1 (as := [.int (xs (7 * n + 1))]) (rest := [.int r]) (h := hm) (h2 := hx') (h' := hm') (ad := adm) (ad2 := adx') em (by decide) (by decide +kernel) (Nat.le_of_ble_eq_true rfl) (fun v hv => by simp only [List.mem_cons, List.not_mem_nil, or_false] at hv; subst hv; exact ⟨_, rfl⟩) m0 (by decide) (r := (RX12, TX12, 39)) rfl wm rfl zk1m1 zk1m2 zk1m3 zk1m4 (by decide) hl.1 (Nat.le_of_ble_eq_true rfl) zd_262 Pm1 Px1 Dm dis1.sym S ⟨by have zr := zroom; show _ ≤ room_1.cells; omega, by have zr := zroom; show _ ≤ room_1.slots; omega⟩ ?_
  intro _ _ adm' H2 locs2 eb Pm2 Px2 Dm2 dis2 wm2 S
  refine lv_icmp_eq (tgt := 1274) F.1 F.2.1 zd_265 (by decide) (fun _ => ?_) (fun q => absurd rfl q)
  refine zW_eq (K hx' hm' adx' adm' H2 locs2 ls R' wx1 wm2 Px2 Pm2 Dx1 Dm2 dis2.sym S ?_) (by omega) (by omega)
  rw [ea 0 (List.getElem?_eq_some_iff.mp x0).1, eb 0 (List.getElem?_eq_some_iff.mp m0).1]
  exact hl
/-- river -/
theorem zk2x1 : Cond.methodLink R_law 23 zm118.1 ∈ zGT := zGT_mem 576 (by decide +kernel) (by decide +kernel)
theorem zk2x2 : Cond.instanceMethod zm118.1 ∈ zGT := zGT_mem 577 (by decide +kernel) (by decide +kernel)
theorem zk2x3 : Cond.selects "BookBarge" zm118.1 zm118.1 ∈ zGT := zGT_mem 578 (by decide +kernel) (by decide +kernel)
theorem zk2x4 : zcal zm118 0 := ⟨zGT_mem 579 (by decide +kernel) (by decide +kernel), zGT_mem 143 (by decide +kernel) (by decide +kernel), by decide +kernel⟩
theorem zk2m1 : Cond.methodLink R_law 27 zm199.1 ∈ zGT := zGT_mem 1725 (by decide +kernel) (by decide +kernel)
theorem zk2m2 : Cond.instanceMethod zm199.1 ∈ zGT := zGT_mem 1726 (by decide +kernel) (by decide +kernel)
theorem zk2m3 : Cond.selects "BookBargeModel" zm199.1 zm199.1 ∈ zGT := zGT_mem 1727 (by decide +kernel) (by decide +kernel)
theorem zk2m4 : zcal zm199 0 := ⟨zGT_mem 1728 (by decide +kernel) (by decide +kernel), zGT_mem 154 (by decide +kernel) (by decide +kernel), by decide +kernel⟩
set_option maxHeartbeats 4000000 in
theorem zl_c2 (F : zlF p s m meth c b L xs Gd cy adK adV) (hRB : zRBr Rel) (ho : zo2 Rel) (hL : L ≤ 3584) {n : Nat} (hn : 7 * n + 7 ≤ L) (K : zHd p l e s m below meth c b Gd cy Rel (n + 1) (7 * n) 1274) : zHd p l e s m below meth c b Gd cy Rel n (7 * n) 270 := by
  intro hx hm adx adm H locs ls R wx wm Px Pm Dx Dm dis S hl
  obtain ⟨r, hx', hm', ex, em, R'⟩ := ho n hx hm R
  have bx := (zsnd l _ _ _ _ _ _ _ ex).1
  have bm := (zsnd l _ _ _ _ _ _ _ em).1
  dsimp only at bx bm
  obtain ⟨-, ⟨nx, rx, x0⟩, ⟨nm, rm, m0⟩, -⟩ := hRB _ _ _ R
  obtain ⟨hB1, hB2⟩ := (hRB _ _ _ R').1 (by omega)
  refine lv_aload_n F.1 F.2.1 zd_270 rfl (lv_at hl 1 rfl) ?_
  refine zl_callV F.1 F.2.1 F.2.2.2.1 F.2.2.2.2.1 F.2.2.2.2.2.1 F.2.2.2.2.2.2.2.2.2 118 10 0 (as := []) (rest := []) (h := hx) (h2 := hm) (h' := hx') (ad := adx) (ad2 := adm) ex (by decide) (by decide +kernel) (Nat.le_of_ble_eq_true rfl) (fun v hv => absurd hv List.not_mem_nil) x0 (by decide) (r := (RX11, TX11, 17)) rfl wx rfl zk2x1 zk2x2 zk2x3 zk2x4 (by decide) hl.1 (Nat.le_of_ble_eq_true rfl) zd_271 Px Pm Dx dis S ⟨by have zr := zroom; show _ ≤ room_1.cells; omega, by have zr := zroom; show _ ≤ room_1.slots; omega⟩ ?_
  intro _ _ adx' H1 locs1 ea Px1 Pm1 Dx1 dis1 wx1 S
  refine lv_aload_n F.1 F.2.1 zd_274 rfl (lv_at hl 2 rfl) ?_
  refine zl_callV F.1 F.2.1 F.2.2.2.1 F.2.2.2.2.1 F.2.2.2.2.2.1 F.2.2.2.2.2.2.2.2.2 199 11 0 (as := []) (rest := [.int r]) (h := hm) (h2 := hx') (h' := hm') (ad := adm) (ad2 := adx') em (by decide) (by decide +kernel) (Nat.le_of_ble_eq_true rfl) (fun v hv => absurd hv List.not_mem_nil) m0 (by decide) (r := (RX12, TX12, 39)) rfl wm rfl zk2m1 zk2m2 zk2m3 zk2m4 (by decide) hl.1 (Nat.le_of_ble_eq_true rfl) zd_275 Pm1 Px1 Dm dis1.sym S ⟨by have zr := zroom; show _ ≤ room_1.cells; omega, by have zr := zroom; show _ ≤ room_1.slots; omega⟩ ?_
  intro _ _ adm' H2 locs2 eb Pm2 Px2 Dm2 dis2 wm2 S
  refine lv_icmp_eq (tgt := 1274) F.1 F.2.1 zd_278 (by decide) (fun _ => ?_) (fun q => absurd rfl q)
  refine zW_eq (K hx' hm' adx' adm' H2 locs2 ls R' wx1 wm2 Px2 Pm2 Dx1 Dm2 dis2.sym S ?_) (by omega) (by omega)
  rw [ea 0 (List.getElem?_eq_some_iff.mp x0).1, eb 0 (List.getElem?_eq_some_iff.mp m0).1]
  exact hl
/-- rule -/
theorem zk3x1 : Cond.methodLink R_law 28 zm119.1 ∈ zGT := zGT_mem 787 (by decide +kernel) (by decide +kernel)
theorem zk3x2 : Cond.instanceMethod zm119.1 ∈ zGT := zGT_mem 788 (by decide +kernel) (by decide +kernel)
theorem zk3x3 : Cond.selects "BookBarge" zm119.1 zm119.1 ∈ zGT := zGT_mem 789 (by decide +kernel) (by decide +kernel)
theorem zk3x4 : zcal zm119 0 := ⟨zGT_mem 790 (by decide +kernel) (by decide +kernel), zGT_mem 143 (by decide +kernel) (by decide +kernel), by decide +kernel⟩
theorem zk3m1 : Cond.methodLink R_law 31 zm198.1 ∈ zGT := zGT_mem 1548 (by decide +kernel) (by decide +kernel)
theorem zk3m2 : Cond.instanceMethod zm198.1 ∈ zGT := zGT_mem 1549 (by decide +kernel) (by decide +kernel)
theorem zk3m3 : Cond.selects "BookBargeModel" zm198.1 zm198.1 ∈ zGT := zGT_mem 1550 (by decide +kernel) (by decide +kernel)
theorem zk3m4 : zcal zm198 0 := ⟨zGT_mem 1551 (by decide +kernel) (by decide +kernel), zGT_mem 154 (by decide +kernel) (by decide +kernel), by decide +kernel⟩
set_option maxHeartbeats 4000000 in
theorem zl_c3 (F : zlF p s m meth c b L xs Gd cy adK adV) (hRB : zRBr Rel) (ho : zo3 Rel) (hL : L ≤ 3584) {n : Nat} (hn : 7 * n + 7 ≤ L) (K : zHd p l e s m below meth c b Gd cy Rel (n + 1) (7 * n) 1274) : zHd p l e s m below meth c b Gd cy Rel n (7 * n) 283 := by
  intro hx hm adx adm H locs ls R wx wm Px Pm Dx Dm dis S hl
  obtain ⟨r, hx', hm', ex, em, R'⟩ := ho n hx hm R
  have bx := (zsnd l _ _ _ _ _ _ _ ex).1
  have bm := (zsnd l _ _ _ _ _ _ _ em).1
  dsimp only at bx bm
  obtain ⟨-, ⟨nx, rx, x0⟩, ⟨nm, rm, m0⟩, -⟩ := hRB _ _ _ R
  obtain ⟨hB1, hB2⟩ := (hRB _ _ _ R').1 (by omega)
  refine lv_aload_n F.1 F.2.1 zd_283 rfl (lv_at hl 1 rfl) ?_
  refine zl_callV F.1 F.2.1 F.2.2.2.1 F.2.2.2.2.1 F.2.2.2.2.2.1 F.2.2.2.2.2.2.2.2.2 119 10 0 (as := []) (rest := []) (h := hx) (h2 := hm) (h' := hx') (ad := adx) (ad2 := adm) ex (by decide) (by decide +kernel) (Nat.le_of_ble_eq_true rfl) (fun v hv => absurd hv List.not_mem_nil) x0 (by decide) (r := (RX11, TX11, 17)) rfl wx rfl zk3x1 zk3x2 zk3x3 zk3x4 (by decide) hl.1 (Nat.le_of_ble_eq_true rfl) zd_284 Px Pm Dx dis S ⟨by have zr := zroom; show _ ≤ room_1.cells; omega, by have zr := zroom; show _ ≤ room_1.slots; omega⟩ ?_
  intro _ _ adx' H1 locs1 ea Px1 Pm1 Dx1 dis1 wx1 S
  refine lv_aload_n F.1 F.2.1 zd_287 rfl (lv_at hl 2 rfl) ?_
  refine zl_callV F.1 F.2.1 F.2.2.2.1 F.2.2.2.2.1 F.2.2.2.2.2.1 F.2.2.2.2.2.2.2.2.2 198 11 0 (as := []) (rest := [.int r]) (h := hm) (h2 := hx') (h' := hm') (ad := adm) (ad2 := adx') em (by decide) (by decide +kernel) (Nat.le_of_ble_eq_true rfl) (fun v hv => absurd hv List.not_mem_nil) m0 (by decide) (r := (RX12, TX12, 39)) rfl wm rfl zk3m1 zk3m2 zk3m3 zk3m4 (by decide) hl.1 (Nat.le_of_ble_eq_true rfl) zd_288 Pm1 Px1 Dm dis1.sym S ⟨by have zr := zroom; show _ ≤ room_1.cells; omega, by have zr := zroom; show _ ≤ room_1.slots; omega⟩ ?_
  intro _ _ adm' H2 locs2 eb Pm2 Px2 Dm2 dis2 wm2 S
  refine lv_icmp_eq (tgt := 1274) F.1 F.2.1 zd_291 (by decide) (fun _ => ?_) (fun q => absurd rfl q)
  refine zW_eq (K hx' hm' adx' adm' H2 locs2 ls R' wx1 wm2 Px2 Pm2 Dx1 Dm2 dis2.sym S ?_) (by omega) (by omega)
  rw [ea 0 (List.getElem?_eq_some_iff.mp x0).1, eb 0 (List.getElem?_eq_some_iff.mp m0).1]
  exact hl
/-- book -/
theorem zk4x1 : Cond.methodLink R_law 32 zm120.1 ∈ zGT := zGT_mem 927 (by decide +kernel) (by decide +kernel)
theorem zk4x2 : Cond.instanceMethod zm120.1 ∈ zGT := zGT_mem 928 (by decide +kernel) (by decide +kernel)
theorem zk4x3 : Cond.selects "BookBarge" zm120.1 zm120.1 ∈ zGT := zGT_mem 929 (by decide +kernel) (by decide +kernel)
theorem zk4x4 : zcal zm120 2 := ⟨zGT_mem 930 (by decide +kernel) (by decide +kernel), zGT_mem 143 (by decide +kernel) (by decide +kernel), by decide +kernel⟩
theorem zk4m1 : Cond.methodLink R_law 36 zm230.1 ∈ zGT := zGT_mem 1729 (by decide +kernel) (by decide +kernel)
theorem zk4m2 : Cond.instanceMethod zm230.1 ∈ zGT := zGT_mem 1730 (by decide +kernel) (by decide +kernel)
theorem zk4m3 : Cond.selects "BookBargeModel" zm230.1 zm230.1 ∈ zGT := zGT_mem 1731 (by decide +kernel) (by decide +kernel)
theorem zk4m4 : zcal zm230 2 := ⟨zGT_mem 1732 (by decide +kernel) (by decide +kernel), zGT_mem 154 (by decide +kernel) (by decide +kernel), by decide +kernel⟩
set_option maxHeartbeats 4000000 in
theorem zl_c4 (F : zlF p s m meth c b L xs Gd cy adK adV) (hRB : zRBr Rel) (ho : zo4 Rel) (hL : L ≤ 3584) {n : Nat} (hn : 7 * n + 7 ≤ L) (K : zHd p l e s m below meth c b Gd cy Rel (n + 1) (7 * n) 1274) : zHd p l e s m below meth c b Gd cy Rel n (7 * n) 296 := by
  intro hx hm adx adm H locs ls R wx wm Px Pm Dx Dm dis S hl
  obtain ⟨r, hx', hm', ex, em, R'⟩ := ho n hx hm R (xs (7 * n + 1)) (xs (7 * n + 2))
  have bx := (zsnd l _ _ _ _ _ _ _ ex).1
  have bm := (zsnd l _ _ _ _ _ _ _ em).1
  dsimp only at bx bm
  obtain ⟨-, ⟨nx, rx, x0⟩, ⟨nm, rm, m0⟩, -⟩ := hRB _ _ _ R
  obtain ⟨hB1, hB2⟩ := (hRB _ _ _ R').1 (by omega)
  refine lv_aload_n F.1 F.2.1 zd_296 rfl (lv_at hl 1 rfl) ?_
  refine zl_argA F hl zd_297 zd_298 ?_
  refine lv_iconst (v := 1) F.1 F.2.1 zd_299 (by decide) ?_
  refine zl_argB (k := 1) F rfl S (by omega) hL zd_300 zd_301 ?_
  refine zl_argA F hl zd_302 zd_303 ?_
  refine lv_iconst (v := 2) F.1 F.2.1 zd_304 (by decide) ?_
  refine zl_argB (k := 2) F rfl S (by omega) hL zd_305 zd_306 ?_
  refine zl_callV F.1 F.2.1 F.2.2.2.1 F.2.2.2.2.1 F.2.2.2.2.2.1 F.2.2.2.2.2.2.2.2.2 120 10 2 (as := [.int (xs (7 * n + 1)), .int (xs (7 * n + 2))]) (rest := []) (h := hx) (h2 := hm) (h' := hx') (ad := adx) (ad2 := adm) ex (by decide) (by decide +kernel) (Nat.le_of_ble_eq_true rfl) (fun v hv => by simp only [List.mem_cons, List.not_mem_nil, or_false] at hv; rcases hv with rfl | rfl <;> exact ⟨_, rfl⟩) x0 (by decide) (r := (RX11, TX11, 17)) rfl wx rfl zk4x1 zk4x2 zk4x3 zk4x4 (by decide) hl.1 (Nat.le_of_ble_eq_true rfl) zd_307 Px Pm Dx dis S ⟨by have zr := zroom; show _ ≤ room_1.cells; omega, by have zr := zroom; show _ ≤ room_1.slots; omega⟩ ?_
  intro _ _ adx' H1 locs1 ea Px1 Pm1 Dx1 dis1 wx1 S
  refine lv_aload_n F.1 F.2.1 zd_310 rfl (lv_at hl 2 rfl) ?_
  refine zl_argA F hl zd_311 zd_312 ?_
  refine lv_iconst (v := 1) F.1 F.2.1 zd_313 (by decide) ?_
  refine zl_argB (k := 1) F rfl S (by omega) hL zd_314 zd_315 ?_
  refine zl_argA F hl zd_316 zd_317 ?_
  refine lv_iconst (v := 2) F.1 F.2.1 zd_318 (by decide) ?_
  refine zl_argB (k := 2) F rfl S (by omega) hL zd_319 zd_320 ?_
  refine zl_callV F.1 F.2.1 F.2.2.2.1 F.2.2.2.2.1 F.2.2.2.2.2.1 F.2.2.2.2.2.2.2.2.2 230 11 2 (as := [.int (xs (7 * n + 1)), .int (xs (7 * n + 2))]) (rest := [.int r]) (h := hm) (h2 := hx') (h' := hm') (ad := adm) (ad2 := adx') em (by decide) (by decide +kernel) (Nat.le_of_ble_eq_true rfl) (fun v hv => by simp only [List.mem_cons, List.not_mem_nil, or_false] at hv; rcases hv with rfl | rfl <;> exact ⟨_, rfl⟩) m0 (by decide) (r := (RX12, TX12, 39)) rfl wm rfl zk4m1 zk4m2 zk4m3 zk4m4 (by decide) hl.1 (Nat.le_of_ble_eq_true rfl) zd_321 Pm1 Px1 Dm dis1.sym S ⟨by have zr := zroom; show _ ≤ room_1.cells; omega, by have zr := zroom; show _ ≤ room_1.slots; omega⟩ ?_
  intro _ _ adm' H2 locs2 eb Pm2 Px2 Dm2 dis2 wm2 S
  refine lv_icmp_eq (tgt := 1274) F.1 F.2.1 zd_324 (by decide) (fun _ => ?_) (fun q => absurd rfl q)
  refine zW_eq (K hx' hm' adx' adm' H2 locs2 ls R' wx1 wm2 Px2 Pm2 Dx1 Dm2 dis2.sym S ?_) (by omega) (by omega)
  rw [ea 0 (List.getElem?_eq_some_iff.mp x0).1, eb 0 (List.getElem?_eq_some_iff.mp m0).1]
  exact hl
/-- stop -/
theorem zk5x1 : Cond.methodLink R_law 37 zm121.1 ∈ zGT := zGT_mem 935 (by decide +kernel) (by decide +kernel)
theorem zk5x2 : Cond.instanceMethod zm121.1 ∈ zGT := zGT_mem 936 (by decide +kernel) (by decide +kernel)
theorem zk5x3 : Cond.selects "BookBarge" zm121.1 zm121.1 ∈ zGT := zGT_mem 937 (by decide +kernel) (by decide +kernel)
theorem zk5x4 : zcal zm121 2 := ⟨zGT_mem 938 (by decide +kernel) (by decide +kernel), zGT_mem 143 (by decide +kernel) (by decide +kernel), by decide +kernel⟩
theorem zk5m1 : Cond.methodLink R_law 40 zm232.1 ∈ zGT := zGT_mem 1742 (by decide +kernel) (by decide +kernel)
theorem zk5m2 : Cond.instanceMethod zm232.1 ∈ zGT := zGT_mem 1743 (by decide +kernel) (by decide +kernel)
theorem zk5m3 : Cond.selects "BookBargeModel" zm232.1 zm232.1 ∈ zGT := zGT_mem 1744 (by decide +kernel) (by decide +kernel)
theorem zk5m4 : zcal zm232 2 := ⟨zGT_mem 1745 (by decide +kernel) (by decide +kernel), zGT_mem 154 (by decide +kernel) (by decide +kernel), by decide +kernel⟩
set_option maxHeartbeats 4000000 in
theorem zl_c5 (F : zlF p s m meth c b L xs Gd cy adK adV) (hRB : zRBr Rel) (ho : zo5 Rel) (hL : L ≤ 3584) {n : Nat} (hn : 7 * n + 7 ≤ L) (K : zHd p l e s m below meth c b Gd cy Rel (n + 1) (7 * n) 1274) : zHd p l e s m below meth c b Gd cy Rel n (7 * n) 329 := by
  intro hx hm adx adm H locs ls R wx wm Px Pm Dx Dm dis S hl
  obtain ⟨r, hx', hm', ex, em, R'⟩ := ho n hx hm R (xs (7 * n + 1)) (xs (7 * n + 2))
  have bx := (zsnd l _ _ _ _ _ _ _ ex).1
  have bm := (zsnd l _ _ _ _ _ _ _ em).1
  dsimp only at bx bm
  obtain ⟨-, ⟨nx, rx, x0⟩, ⟨nm, rm, m0⟩, -⟩ := hRB _ _ _ R
  obtain ⟨hB1, hB2⟩ := (hRB _ _ _ R').1 (by omega)
  refine lv_aload_n F.1 F.2.1 zd_329 rfl (lv_at hl 1 rfl) ?_
  refine zl_argA F hl zd_330 zd_331 ?_
  refine lv_iconst (v := 1) F.1 F.2.1 zd_332 (by decide) ?_
  refine zl_argB (k := 1) F rfl S (by omega) hL zd_333 zd_334 ?_
  refine zl_argA F hl zd_335 zd_336 ?_
  refine lv_iconst (v := 2) F.1 F.2.1 zd_337 (by decide) ?_
  refine zl_argB (k := 2) F rfl S (by omega) hL zd_338 zd_339 ?_
  refine zl_callV F.1 F.2.1 F.2.2.2.1 F.2.2.2.2.1 F.2.2.2.2.2.1 F.2.2.2.2.2.2.2.2.2 121 10 2 (as := [.int (xs (7 * n + 1)), .int (xs (7 * n + 2))]) (rest := []) (h := hx) (h2 := hm) (h' := hx') (ad := adx) (ad2 := adm) ex (by decide) (by decide +kernel) (Nat.le_of_ble_eq_true rfl) (fun v hv => by simp only [List.mem_cons, List.not_mem_nil, or_false] at hv; rcases hv with rfl | rfl <;> exact ⟨_, rfl⟩) x0 (by decide) (r := (RX11, TX11, 17)) rfl wx rfl zk5x1 zk5x2 zk5x3 zk5x4 (by decide) hl.1 (Nat.le_of_ble_eq_true rfl) zd_340 Px Pm Dx dis S ⟨by have zr := zroom; show _ ≤ room_1.cells; omega, by have zr := zroom; show _ ≤ room_1.slots; omega⟩ ?_
  intro _ _ adx' H1 locs1 ea Px1 Pm1 Dx1 dis1 wx1 S
  refine lv_aload_n F.1 F.2.1 zd_343 rfl (lv_at hl 2 rfl) ?_
  refine zl_argA F hl zd_344 zd_345 ?_
  refine lv_iconst (v := 1) F.1 F.2.1 zd_346 (by decide) ?_
  refine zl_argB (k := 1) F rfl S (by omega) hL zd_347 zd_348 ?_
  refine zl_argA F hl zd_349 zd_350 ?_
  refine lv_iconst (v := 2) F.1 F.2.1 zd_351 (by decide) ?_
  refine zl_argB (k := 2) F rfl S (by omega) hL zd_352 zd_353 ?_
  refine zl_callV F.1 F.2.1 F.2.2.2.1 F.2.2.2.2.1 F.2.2.2.2.2.1 F.2.2.2.2.2.2.2.2.2 232 11 2 (as := [.int (xs (7 * n + 1)), .int (xs (7 * n + 2))]) (rest := [.int r]) (h := hm) (h2 := hx') (h' := hm') (ad := adm) (ad2 := adx') em (by decide) (by decide +kernel) (Nat.le_of_ble_eq_true rfl) (fun v hv => by simp only [List.mem_cons, List.not_mem_nil, or_false] at hv; rcases hv with rfl | rfl <;> exact ⟨_, rfl⟩) m0 (by decide) (r := (RX12, TX12, 39)) rfl wm rfl zk5m1 zk5m2 zk5m3 zk5m4 (by decide) hl.1 (Nat.le_of_ble_eq_true rfl) zd_354 Pm1 Px1 Dm dis1.sym S ⟨by have zr := zroom; show _ ≤ room_1.cells; omega, by have zr := zroom; show _ ≤ room_1.slots; omega⟩ ?_
  intro _ _ adm' H2 locs2 eb Pm2 Px2 Dm2 dis2 wm2 S
  refine lv_icmp_eq (tgt := 1274) F.1 F.2.1 zd_357 (by decide) (fun _ => ?_) (fun q => absurd rfl q)
  refine zW_eq (K hx' hm' adx' adm' H2 locs2 ls R' wx1 wm2 Px2 Pm2 Dx1 Dm2 dis2.sym S ?_) (by omega) (by omega)
  rw [ea 0 (List.getElem?_eq_some_iff.mp x0).1, eb 0 (List.getElem?_eq_some_iff.mp m0).1]
  exact hl
/-- reader -/
theorem zk6x1 : Cond.methodLink R_law 41 zm123.1 ∈ zGT := zGT_mem 988 (by decide +kernel) (by decide +kernel)
theorem zk6x2 : Cond.instanceMethod zm123.1 ∈ zGT := zGT_mem 989 (by decide +kernel) (by decide +kernel)
theorem zk6x3 : Cond.selects "BookBarge" zm123.1 zm123.1 ∈ zGT := zGT_mem 990 (by decide +kernel) (by decide +kernel)
theorem zk6x4 : zcal zm123 2 := ⟨zGT_mem 991 (by decide +kernel) (by decide +kernel), zGT_mem 143 (by decide +kernel) (by decide +kernel), by decide +kernel⟩
theorem zk6m1 : Cond.methodLink R_law 44 zm233.1 ∈ zGT := zGT_mem 1818 (by decide +kernel) (by decide +kernel)
theorem zk6m2 : Cond.instanceMethod zm233.1 ∈ zGT := zGT_mem 1819 (by decide +kernel) (by decide +kernel)
theorem zk6m3 : Cond.selects "BookBargeModel" zm233.1 zm233.1 ∈ zGT := zGT_mem 1820 (by decide +kernel) (by decide +kernel)
theorem zk6m4 : zcal zm233 2 := ⟨zGT_mem 1821 (by decide +kernel) (by decide +kernel), zGT_mem 154 (by decide +kernel) (by decide +kernel), by decide +kernel⟩
set_option maxHeartbeats 4000000 in
theorem zl_c6 (F : zlF p s m meth c b L xs Gd cy adK adV) (hRB : zRBr Rel) (ho : zo6 Rel) (hL : L ≤ 3584) {n : Nat} (hn : 7 * n + 7 ≤ L) (K : zHd p l e s m below meth c b Gd cy Rel (n + 1) (7 * n) 1274) : zHd p l e s m below meth c b Gd cy Rel n (7 * n) 362 := by
  intro hx hm adx adm H locs ls R wx wm Px Pm Dx Dm dis S hl
  obtain ⟨r, hx', hm', ex, em, R'⟩ := ho n hx hm R (xs (7 * n + 1)) (xs (7 * n + 2))
  have bx := (zsnd l _ _ _ _ _ _ _ ex).1
  have bm := (zsnd l _ _ _ _ _ _ _ em).1
  dsimp only at bx bm
  obtain ⟨-, ⟨nx, rx, x0⟩, ⟨nm, rm, m0⟩, -⟩ := hRB _ _ _ R
  obtain ⟨hB1, hB2⟩ := (hRB _ _ _ R').1 (by omega)
  refine lv_aload_n F.1 F.2.1 zd_362 rfl (lv_at hl 1 rfl) ?_
  refine zl_argA F hl zd_363 zd_364 ?_
  refine lv_iconst (v := 1) F.1 F.2.1 zd_365 (by decide) ?_
  refine zl_argB (k := 1) F rfl S (by omega) hL zd_366 zd_367 ?_
  refine zl_argA F hl zd_368 zd_369 ?_
  refine lv_iconst (v := 2) F.1 F.2.1 zd_370 (by decide) ?_
  refine zl_argB (k := 2) F rfl S (by omega) hL zd_371 zd_372 ?_
  refine zl_callV F.1 F.2.1 F.2.2.2.1 F.2.2.2.2.1 F.2.2.2.2.2.1 F.2.2.2.2.2.2.2.2.2 123 10 2 (as := [.int (xs (7 * n + 1)), .int (xs (7 * n + 2))]) (rest := []) (h := hx) (h2 := hm) (h' := hx') (ad := adx) (ad2 := adm) ex (by decide) (by decide +kernel) (Nat.le_of_ble_eq_true rfl) (fun v hv => by simp only [List.mem_cons, List.not_mem_nil, or_false] at hv; rcases hv with rfl | rfl <;> exact ⟨_, rfl⟩) x0 (by decide) (r := (RX11, TX11, 17)) rfl wx rfl zk6x1 zk6x2 zk6x3 zk6x4 (by decide) hl.1 (Nat.le_of_ble_eq_true rfl) zd_373 Px Pm Dx dis S ⟨by have zr := zroom; show _ ≤ room_1.cells; omega, by have zr := zroom; show _ ≤ room_1.slots; omega⟩ ?_
  intro _ _ adx' H1 locs1 ea Px1 Pm1 Dx1 dis1 wx1 S
  refine lv_aload_n F.1 F.2.1 zd_376 rfl (lv_at hl 2 rfl) ?_
  refine zl_argA F hl zd_377 zd_378 ?_
  refine lv_iconst (v := 1) F.1 F.2.1 zd_379 (by decide) ?_
  refine zl_argB (k := 1) F rfl S (by omega) hL zd_380 zd_381 ?_
  refine zl_argA F hl zd_382 zd_383 ?_
  refine lv_iconst (v := 2) F.1 F.2.1 zd_384 (by decide) ?_
  refine zl_argB (k := 2) F rfl S (by omega) hL zd_385 zd_386 ?_
  refine zl_callV F.1 F.2.1 F.2.2.2.1 F.2.2.2.2.1 F.2.2.2.2.2.1 F.2.2.2.2.2.2.2.2.2 233 11 2 (as := [.int (xs (7 * n + 1)), .int (xs (7 * n + 2))]) (rest := [.int r]) (h := hm) (h2 := hx') (h' := hm') (ad := adm) (ad2 := adx') em (by decide) (by decide +kernel) (Nat.le_of_ble_eq_true rfl) (fun v hv => by simp only [List.mem_cons, List.not_mem_nil, or_false] at hv; rcases hv with rfl | rfl <;> exact ⟨_, rfl⟩) m0 (by decide) (r := (RX12, TX12, 39)) rfl wm rfl zk6m1 zk6m2 zk6m3 zk6m4 (by decide) hl.1 (Nat.le_of_ble_eq_true rfl) zd_387 Pm1 Px1 Dm dis1.sym S ⟨by have zr := zroom; show _ ≤ room_1.cells; omega, by have zr := zroom; show _ ≤ room_1.slots; omega⟩ ?_
  intro _ _ adm' H2 locs2 eb Pm2 Px2 Dm2 dis2 wm2 S
  refine lv_icmp_eq (tgt := 1274) F.1 F.2.1 zd_390 (by decide) (fun _ => ?_) (fun q => absurd rfl q)
  refine zW_eq (K hx' hm' adx' adm' H2 locs2 ls R' wx1 wm2 Px2 Pm2 Dx1 Dm2 dis2.sym S ?_) (by omega) (by omega)
  rw [ea 0 (List.getElem?_eq_some_iff.mp x0).1, eb 0 (List.getElem?_eq_some_iff.mp m0).1]
  exact hl
/-- wish -/
theorem zk7x1 : Cond.methodLink R_law 45 zm124.1 ∈ zGT := zGT_mem 996 (by decide +kernel) (by decide +kernel)
theorem zk7x2 : Cond.instanceMethod zm124.1 ∈ zGT := zGT_mem 997 (by decide +kernel) (by decide +kernel)
theorem zk7x3 : Cond.selects "BookBarge" zm124.1 zm124.1 ∈ zGT := zGT_mem 998 (by decide +kernel) (by decide +kernel)
theorem zk7x4 : zcal zm124 2 := ⟨zGT_mem 999 (by decide +kernel) (by decide +kernel), zGT_mem 143 (by decide +kernel) (by decide +kernel), by decide +kernel⟩
theorem zk7m1 : Cond.methodLink R_law 48 zm234.1 ∈ zGT := zGT_mem 1826 (by decide +kernel) (by decide +kernel)
theorem zk7m2 : Cond.instanceMethod zm234.1 ∈ zGT := zGT_mem 1827 (by decide +kernel) (by decide +kernel)
theorem zk7m3 : Cond.selects "BookBargeModel" zm234.1 zm234.1 ∈ zGT := zGT_mem 1828 (by decide +kernel) (by decide +kernel)
theorem zk7m4 : zcal zm234 2 := ⟨zGT_mem 1829 (by decide +kernel) (by decide +kernel), zGT_mem 154 (by decide +kernel) (by decide +kernel), by decide +kernel⟩
set_option maxHeartbeats 4000000 in
theorem zl_c7 (F : zlF p s m meth c b L xs Gd cy adK adV) (hRB : zRBr Rel) (ho : zo7 Rel) (hL : L ≤ 3584) {n : Nat} (hn : 7 * n + 7 ≤ L) (K : zHd p l e s m below meth c b Gd cy Rel (n + 1) (7 * n) 1274) : zHd p l e s m below meth c b Gd cy Rel n (7 * n) 395 := by
  intro hx hm adx adm H locs ls R wx wm Px Pm Dx Dm dis S hl
  obtain ⟨r, hx', hm', ex, em, R'⟩ := ho n hx hm R (xs (7 * n + 1)) (xs (7 * n + 2))
  have bx := (zsnd l _ _ _ _ _ _ _ ex).1
  have bm := (zsnd l _ _ _ _ _ _ _ em).1
  dsimp only at bx bm
  obtain ⟨-, ⟨nx, rx, x0⟩, ⟨nm, rm, m0⟩, -⟩ := hRB _ _ _ R
  obtain ⟨hB1, hB2⟩ := (hRB _ _ _ R').1 (by omega)
  refine lv_aload_n F.1 F.2.1 zd_395 rfl (lv_at hl 1 rfl) ?_
  refine zl_argA F hl zd_396 zd_397 ?_
  refine lv_iconst (v := 1) F.1 F.2.1 zd_398 (by decide) ?_
  refine zl_argB (k := 1) F rfl S (by omega) hL zd_399 zd_400 ?_
  refine zl_argA F hl zd_401 zd_402 ?_
  refine lv_iconst (v := 2) F.1 F.2.1 zd_403 (by decide) ?_
  refine zl_argB (k := 2) F rfl S (by omega) hL zd_404 zd_405 ?_
  refine zl_callV F.1 F.2.1 F.2.2.2.1 F.2.2.2.2.1 F.2.2.2.2.2.1 F.2.2.2.2.2.2.2.2.2 124 10 2 (as := [.int (xs (7 * n + 1)), .int (xs (7 * n + 2))]) (rest := []) (h := hx) (h2 := hm) (h' := hx') (ad := adx) (ad2 := adm) ex (by decide) (by decide +kernel) (Nat.le_of_ble_eq_true rfl) (fun v hv => by simp only [List.mem_cons, List.not_mem_nil, or_false] at hv; rcases hv with rfl | rfl <;> exact ⟨_, rfl⟩) x0 (by decide) (r := (RX11, TX11, 17)) rfl wx rfl zk7x1 zk7x2 zk7x3 zk7x4 (by decide) hl.1 (Nat.le_of_ble_eq_true rfl) zd_406 Px Pm Dx dis S ⟨by have zr := zroom; show _ ≤ room_1.cells; omega, by have zr := zroom; show _ ≤ room_1.slots; omega⟩ ?_
  intro _ _ adx' H1 locs1 ea Px1 Pm1 Dx1 dis1 wx1 S
  refine lv_aload_n F.1 F.2.1 zd_409 rfl (lv_at hl 2 rfl) ?_
  refine zl_argA F hl zd_410 zd_411 ?_
  refine lv_iconst (v := 1) F.1 F.2.1 zd_412 (by decide) ?_
  refine zl_argB (k := 1) F rfl S (by omega) hL zd_413 zd_414 ?_
  refine zl_argA F hl zd_415 zd_416 ?_
  refine lv_iconst (v := 2) F.1 F.2.1 zd_417 (by decide) ?_
  refine zl_argB (k := 2) F rfl S (by omega) hL zd_418 zd_419 ?_
  refine zl_callV F.1 F.2.1 F.2.2.2.1 F.2.2.2.2.1 F.2.2.2.2.2.1 F.2.2.2.2.2.2.2.2.2 234 11 2 (as := [.int (xs (7 * n + 1)), .int (xs (7 * n + 2))]) (rest := [.int r]) (h := hm) (h2 := hx') (h' := hm') (ad := adm) (ad2 := adx') em (by decide) (by decide +kernel) (Nat.le_of_ble_eq_true rfl) (fun v hv => by simp only [List.mem_cons, List.not_mem_nil, or_false] at hv; rcases hv with rfl | rfl <;> exact ⟨_, rfl⟩) m0 (by decide) (r := (RX12, TX12, 39)) rfl wm rfl zk7m1 zk7m2 zk7m3 zk7m4 (by decide) hl.1 (Nat.le_of_ble_eq_true rfl) zd_420 Pm1 Px1 Dm dis1.sym S ⟨by have zr := zroom; show _ ≤ room_1.cells; omega, by have zr := zroom; show _ ≤ room_1.slots; omega⟩ ?_
  intro _ _ adm' H2 locs2 eb Pm2 Px2 Dm2 dis2 wm2 S
  refine lv_icmp_eq (tgt := 1274) F.1 F.2.1 zd_423 (by decide) (fun _ => ?_) (fun q => absurd rfl q)
  refine zW_eq (K hx' hm' adx' adm' H2 locs2 ls R' wx1 wm2 Px2 Pm2 Dx1 Dm2 dis2.sym S ?_) (by omega) (by omega)
  rw [ea 0 (List.getElem?_eq_some_iff.mp x0).1, eb 0 (List.getElem?_eq_some_iff.mp m0).1]
  exact hl
/-- lies -/
theorem zk8x1 : Cond.methodLink R_law 49 zm125.1 ∈ zGT := zGT_mem 1004 (by decide +kernel) (by decide +kernel)
theorem zk8x2 : Cond.instanceMethod zm125.1 ∈ zGT := zGT_mem 1005 (by decide +kernel) (by decide +kernel)
theorem zk8x3 : Cond.selects "BookBarge" zm125.1 zm125.1 ∈ zGT := zGT_mem 1006 (by decide +kernel) (by decide +kernel)
theorem zk8x4 : zcal zm125 2 := ⟨zGT_mem 1007 (by decide +kernel) (by decide +kernel), zGT_mem 143 (by decide +kernel) (by decide +kernel), by decide +kernel⟩
theorem zk8m1 : Cond.methodLink R_law 52 zm236.1 ∈ zGT := zGT_mem 1847 (by decide +kernel) (by decide +kernel)
theorem zk8m2 : Cond.instanceMethod zm236.1 ∈ zGT := zGT_mem 1848 (by decide +kernel) (by decide +kernel)
theorem zk8m3 : Cond.selects "BookBargeModel" zm236.1 zm236.1 ∈ zGT := zGT_mem 1849 (by decide +kernel) (by decide +kernel)
theorem zk8m4 : zcal zm236 2 := ⟨zGT_mem 1850 (by decide +kernel) (by decide +kernel), zGT_mem 154 (by decide +kernel) (by decide +kernel), by decide +kernel⟩
set_option maxHeartbeats 4000000 in
theorem zl_c8 (F : zlF p s m meth c b L xs Gd cy adK adV) (hRB : zRBr Rel) (ho : zo8 Rel) (hL : L ≤ 3584) {n : Nat} (hn : 7 * n + 7 ≤ L) (K : zHd p l e s m below meth c b Gd cy Rel (n + 1) (7 * n) 1274) : zHd p l e s m below meth c b Gd cy Rel n (7 * n) 428 := by
  intro hx hm adx adm H locs ls R wx wm Px Pm Dx Dm dis S hl
  obtain ⟨r, hx', hm', ex, em, R'⟩ := ho n hx hm R (xs (7 * n + 1)) (xs (7 * n + 2))
  have bx := (zsnd l _ _ _ _ _ _ _ ex).1
  have bm := (zsnd l _ _ _ _ _ _ _ em).1
  dsimp only at bx bm
  obtain ⟨-, ⟨nx, rx, x0⟩, ⟨nm, rm, m0⟩, -⟩ := hRB _ _ _ R
  obtain ⟨hB1, hB2⟩ := (hRB _ _ _ R').1 (by omega)
  refine lv_aload_n F.1 F.2.1 zd_428 rfl (lv_at hl 1 rfl) ?_
  refine zl_argA F hl zd_429 zd_430 ?_
  refine lv_iconst (v := 1) F.1 F.2.1 zd_431 (by decide) ?_
  refine zl_argB (k := 1) F rfl S (by omega) hL zd_432 zd_433 ?_
  refine zl_argA F hl zd_434 zd_435 ?_
  refine lv_iconst (v := 2) F.1 F.2.1 zd_436 (by decide) ?_
  refine zl_argB (k := 2) F rfl S (by omega) hL zd_437 zd_438 ?_
  refine zl_callV F.1 F.2.1 F.2.2.2.1 F.2.2.2.2.1 F.2.2.2.2.2.1 F.2.2.2.2.2.2.2.2.2 125 10 2 (as := [.int (xs (7 * n + 1)), .int (xs (7 * n + 2))]) (rest := []) (h := hx) (h2 := hm) (h' := hx') (ad := adx) (ad2 := adm) ex (by decide) (by decide +kernel) (Nat.le_of_ble_eq_true rfl) (fun v hv => by simp only [List.mem_cons, List.not_mem_nil, or_false] at hv; rcases hv with rfl | rfl <;> exact ⟨_, rfl⟩) x0 (by decide) (r := (RX11, TX11, 17)) rfl wx rfl zk8x1 zk8x2 zk8x3 zk8x4 (by decide) hl.1 (Nat.le_of_ble_eq_true rfl) zd_439 Px Pm Dx dis S ⟨by have zr := zroom; show _ ≤ room_1.cells; omega, by have zr := zroom; show _ ≤ room_1.slots; omega⟩ ?_
  intro _ _ adx' H1 locs1 ea Px1 Pm1 Dx1 dis1 wx1 S
  refine lv_aload_n F.1 F.2.1 zd_442 rfl (lv_at hl 2 rfl) ?_
  refine zl_argA F hl zd_443 zd_444 ?_
  refine lv_iconst (v := 1) F.1 F.2.1 zd_445 (by decide) ?_
  refine zl_argB (k := 1) F rfl S (by omega) hL zd_446 zd_447 ?_
  refine zl_argA F hl zd_448 zd_449 ?_
  refine lv_iconst (v := 2) F.1 F.2.1 zd_450 (by decide) ?_
  refine zl_argB (k := 2) F rfl S (by omega) hL zd_451 zd_452 ?_
  refine zl_callV F.1 F.2.1 F.2.2.2.1 F.2.2.2.2.1 F.2.2.2.2.2.1 F.2.2.2.2.2.2.2.2.2 236 11 2 (as := [.int (xs (7 * n + 1)), .int (xs (7 * n + 2))]) (rest := [.int r]) (h := hm) (h2 := hx') (h' := hm') (ad := adm) (ad2 := adx') em (by decide) (by decide +kernel) (Nat.le_of_ble_eq_true rfl) (fun v hv => by simp only [List.mem_cons, List.not_mem_nil, or_false] at hv; rcases hv with rfl | rfl <;> exact ⟨_, rfl⟩) m0 (by decide) (r := (RX12, TX12, 39)) rfl wm rfl zk8m1 zk8m2 zk8m3 zk8m4 (by decide) hl.1 (Nat.le_of_ble_eq_true rfl) zd_453 Pm1 Px1 Dm dis1.sym S ⟨by have zr := zroom; show _ ≤ room_1.cells; omega, by have zr := zroom; show _ ≤ room_1.slots; omega⟩ ?_
  intro _ _ adm' H2 locs2 eb Pm2 Px2 Dm2 dis2 wm2 S
  refine lv_icmp_eq (tgt := 1274) F.1 F.2.1 zd_456 (by decide) (fun _ => ?_) (fun q => absurd rfl q)
  refine zW_eq (K hx' hm' adx' adm' H2 locs2 ls R' wx1 wm2 Px2 Pm2 Dx1 Dm2 dis2.sym S ?_) (by omega) (by omega)
  rw [ea 0 (List.getElem?_eq_some_iff.mp x0).1, eb 0 (List.getElem?_eq_some_iff.mp m0).1]
  exact hl
/-- leave -/
theorem zk9x1 : Cond.methodLink R_law 53 zm126.1 ∈ zGT := zGT_mem 1012 (by decide +kernel) (by decide +kernel)
theorem zk9x2 : Cond.instanceMethod zm126.1 ∈ zGT := zGT_mem 1013 (by decide +kernel) (by decide +kernel)
theorem zk9x3 : Cond.selects "BookBarge" zm126.1 zm126.1 ∈ zGT := zGT_mem 1014 (by decide +kernel) (by decide +kernel)
theorem zk9x4 : zcal zm126 1 := ⟨zGT_mem 1015 (by decide +kernel) (by decide +kernel), zGT_mem 143 (by decide +kernel) (by decide +kernel), by decide +kernel⟩
theorem zk9m1 : Cond.methodLink R_law 56 zm240.1 ∈ zGT := zGT_mem 1864 (by decide +kernel) (by decide +kernel)
theorem zk9m2 : Cond.instanceMethod zm240.1 ∈ zGT := zGT_mem 1865 (by decide +kernel) (by decide +kernel)
theorem zk9m3 : Cond.selects "BookBargeModel" zm240.1 zm240.1 ∈ zGT := zGT_mem 1866 (by decide +kernel) (by decide +kernel)
theorem zk9m4 : zcal zm240 1 := ⟨zGT_mem 1867 (by decide +kernel) (by decide +kernel), zGT_mem 154 (by decide +kernel) (by decide +kernel), by decide +kernel⟩
set_option maxHeartbeats 4000000 in
theorem zl_c9 (F : zlF p s m meth c b L xs Gd cy adK adV) (hRB : zRBr Rel) (ho : zo9 Rel) (hL : L ≤ 3584) {n : Nat} (hn : 7 * n + 7 ≤ L) (K : zHd p l e s m below meth c b Gd cy Rel (n + 1) (7 * n) 1274) : zHd p l e s m below meth c b Gd cy Rel n (7 * n) 461 := by
  intro hx hm adx adm H locs ls R wx wm Px Pm Dx Dm dis S hl
  obtain ⟨r, hx', hm', ex, em, R'⟩ := ho n hx hm R (xs (7 * n + 1))
  have bx := (zsnd l _ _ _ _ _ _ _ ex).1
  have bm := (zsnd l _ _ _ _ _ _ _ em).1
  dsimp only at bx bm
  obtain ⟨-, ⟨nx, rx, x0⟩, ⟨nm, rm, m0⟩, -⟩ := hRB _ _ _ R
  obtain ⟨hB1, hB2⟩ := (hRB _ _ _ R').1 (by omega)
  refine lv_aload_n F.1 F.2.1 zd_461 rfl (lv_at hl 1 rfl) ?_
  refine zl_argA F hl zd_462 zd_463 ?_
  refine lv_iconst (v := 1) F.1 F.2.1 zd_464 (by decide) ?_
  refine zl_argB (k := 1) F rfl S (by omega) hL zd_465 zd_466 ?_
  refine zl_callV F.1 F.2.1 F.2.2.2.1 F.2.2.2.2.1 F.2.2.2.2.2.1 F.2.2.2.2.2.2.2.2.2 126 10 1 (as := [.int (xs (7 * n + 1))]) (rest := []) (h := hx) (h2 := hm) (h' := hx') (ad := adx) (ad2 := adm) ex (by decide) (by decide +kernel) (Nat.le_of_ble_eq_true rfl) (fun v hv => by simp only [List.mem_cons, List.not_mem_nil, or_false] at hv; subst hv; exact ⟨_, rfl⟩) x0 (by decide) (r := (RX11, TX11, 17)) rfl wx rfl zk9x1 zk9x2 zk9x3 zk9x4 (by decide) hl.1 (Nat.le_of_ble_eq_true rfl) zd_467 Px Pm Dx dis S ⟨by have zr := zroom; show _ ≤ room_1.cells; omega, by have zr := zroom; show _ ≤ room_1.slots; omega⟩ ?_
  intro _ _ adx' H1 locs1 ea Px1 Pm1 Dx1 dis1 wx1 S
  refine lv_aload_n F.1 F.2.1 zd_470 rfl (lv_at hl 2 rfl) ?_
  refine zl_argA F hl zd_471 zd_472 ?_
  refine lv_iconst (v := 1) F.1 F.2.1 zd_473 (by decide) ?_
  refine zl_argB (k := 1) F rfl S (by omega) hL zd_474 zd_475 ?_
  refine zl_callV F.1 F.2.1 F.2.2.2.1 F.2.2.2.2.1 F.2.2.2.2.2.1 F.2.2.2.2.2.2.2.2.2 240 11 1 (as := [.int (xs (7 * n + 1))]) (rest := [.int r]) (h := hm) (h2 := hx') (h' := hm') (ad := adm) (ad2 := adx') em (by decide) (by decide +kernel) (Nat.le_of_ble_eq_true rfl) (fun v hv => by simp only [List.mem_cons, List.not_mem_nil, or_false] at hv; subst hv; exact ⟨_, rfl⟩) m0 (by decide) (r := (RX12, TX12, 39)) rfl wm rfl zk9m1 zk9m2 zk9m3 zk9m4 (by decide) hl.1 (Nat.le_of_ble_eq_true rfl) zd_476 Pm1 Px1 Dm dis1.sym S ⟨by have zr := zroom; show _ ≤ room_1.cells; omega, by have zr := zroom; show _ ≤ room_1.slots; omega⟩ ?_
  intro _ _ adm' H2 locs2 eb Pm2 Px2 Dm2 dis2 wm2 S
  refine lv_icmp_eq (tgt := 1274) F.1 F.2.1 zd_479 (by decide) (fun _ => ?_) (fun q => absurd rfl q)
  refine zW_eq (K hx' hm' adx' adm' H2 locs2 ls R' wx1 wm2 Px2 Pm2 Dx1 Dm2 dis2.sym S ?_) (by omega) (by omega)
  rw [ea 0 (List.getElem?_eq_some_iff.mp x0).1, eb 0 (List.getElem?_eq_some_iff.mp m0).1]
  exact hl
/-- lend -/
theorem zk10x1 : Cond.methodLink R_law 57 zm127.1 ∈ zGT := zGT_mem 1030 (by decide +kernel) (by decide +kernel)
theorem zk10x2 : Cond.instanceMethod zm127.1 ∈ zGT := zGT_mem 1031 (by decide +kernel) (by decide +kernel)
theorem zk10x3 : Cond.selects "BookBarge" zm127.1 zm127.1 ∈ zGT := zGT_mem 1032 (by decide +kernel) (by decide +kernel)
theorem zk10x4 : zcal zm127 2 := ⟨zGT_mem 1033 (by decide +kernel) (by decide +kernel), zGT_mem 143 (by decide +kernel) (by decide +kernel), by decide +kernel⟩
theorem zk10m1 : Cond.methodLink R_law 60 zm243.1 ∈ zGT := zGT_mem 1882 (by decide +kernel) (by decide +kernel)
theorem zk10m2 : Cond.instanceMethod zm243.1 ∈ zGT := zGT_mem 1883 (by decide +kernel) (by decide +kernel)
theorem zk10m3 : Cond.selects "BookBargeModel" zm243.1 zm243.1 ∈ zGT := zGT_mem 1884 (by decide +kernel) (by decide +kernel)
theorem zk10m4 : zcal zm243 2 := ⟨zGT_mem 1885 (by decide +kernel) (by decide +kernel), zGT_mem 154 (by decide +kernel) (by decide +kernel), by decide +kernel⟩
set_option maxHeartbeats 4000000 in
theorem zl_c10 (F : zlF p s m meth c b L xs Gd cy adK adV) (hRB : zRBr Rel) (ho : zo10 Rel) (hL : L ≤ 3584) {n : Nat} (hn : 7 * n + 7 ≤ L) (K : zHd p l e s m below meth c b Gd cy Rel (n + 1) (7 * n) 1274) : zHd p l e s m below meth c b Gd cy Rel n (7 * n) 484 := by
  intro hx hm adx adm H locs ls R wx wm Px Pm Dx Dm dis S hl
  obtain ⟨r, hx', hm', ex, em, R'⟩ := ho n hx hm R (xs (7 * n + 1)) (xs (7 * n + 2))
  have bx := (zsnd l _ _ _ _ _ _ _ ex).1
  have bm := (zsnd l _ _ _ _ _ _ _ em).1
  dsimp only at bx bm
  obtain ⟨-, ⟨nx, rx, x0⟩, ⟨nm, rm, m0⟩, -⟩ := hRB _ _ _ R
  obtain ⟨hB1, hB2⟩ := (hRB _ _ _ R').1 (by omega)
  refine lv_aload_n F.1 F.2.1 zd_484 rfl (lv_at hl 1 rfl) ?_
  refine zl_argA F hl zd_485 zd_486 ?_
  refine lv_iconst (v := 1) F.1 F.2.1 zd_487 (by decide) ?_
  refine zl_argB (k := 1) F rfl S (by omega) hL zd_488 zd_489 ?_
  refine zl_argA F hl zd_490 zd_491 ?_
  refine lv_iconst (v := 2) F.1 F.2.1 zd_492 (by decide) ?_
  refine zl_argB (k := 2) F rfl S (by omega) hL zd_493 zd_494 ?_
  refine zl_callV F.1 F.2.1 F.2.2.2.1 F.2.2.2.2.1 F.2.2.2.2.2.1 F.2.2.2.2.2.2.2.2.2 127 10 2 (as := [.int (xs (7 * n + 1)), .int (xs (7 * n + 2))]) (rest := []) (h := hx) (h2 := hm) (h' := hx') (ad := adx) (ad2 := adm) ex (by decide) (by decide +kernel) (Nat.le_of_ble_eq_true rfl) (fun v hv => by simp only [List.mem_cons, List.not_mem_nil, or_false] at hv; rcases hv with rfl | rfl <;> exact ⟨_, rfl⟩) x0 (by decide) (r := (RX11, TX11, 17)) rfl wx rfl zk10x1 zk10x2 zk10x3 zk10x4 (by decide) hl.1 (Nat.le_of_ble_eq_true rfl) zd_495 Px Pm Dx dis S ⟨by have zr := zroom; show _ ≤ room_1.cells; omega, by have zr := zroom; show _ ≤ room_1.slots; omega⟩ ?_
  intro _ _ adx' H1 locs1 ea Px1 Pm1 Dx1 dis1 wx1 S
  refine lv_aload_n F.1 F.2.1 zd_498 rfl (lv_at hl 2 rfl) ?_
  refine zl_argA F hl zd_499 zd_500 ?_
  refine lv_iconst (v := 1) F.1 F.2.1 zd_501 (by decide) ?_
  refine zl_argB (k := 1) F rfl S (by omega) hL zd_502 zd_503 ?_
  refine zl_argA F hl zd_504 zd_505 ?_
  refine lv_iconst (v := 2) F.1 F.2.1 zd_506 (by decide) ?_
  refine zl_argB (k := 2) F rfl S (by omega) hL zd_507 zd_508 ?_
  refine zl_callV F.1 F.2.1 F.2.2.2.1 F.2.2.2.2.1 F.2.2.2.2.2.1 F.2.2.2.2.2.2.2.2.2 243 11 2 (as := [.int (xs (7 * n + 1)), .int (xs (7 * n + 2))]) (rest := [.int r]) (h := hm) (h2 := hx') (h' := hm') (ad := adm) (ad2 := adx') em (by decide) (by decide +kernel) (Nat.le_of_ble_eq_true rfl) (fun v hv => by simp only [List.mem_cons, List.not_mem_nil, or_false] at hv; rcases hv with rfl | rfl <;> exact ⟨_, rfl⟩) m0 (by decide) (r := (RX12, TX12, 39)) rfl wm rfl zk10m1 zk10m2 zk10m3 zk10m4 (by decide) hl.1 (Nat.le_of_ble_eq_true rfl) zd_509 Pm1 Px1 Dm dis1.sym S ⟨by have zr := zroom; show _ ≤ room_1.cells; omega, by have zr := zroom; show _ ≤ room_1.slots; omega⟩ ?_
  intro _ _ adm' H2 locs2 eb Pm2 Px2 Dm2 dis2 wm2 S
  refine lv_icmp_eq (tgt := 1274) F.1 F.2.1 zd_512 (by decide) (fun _ => ?_) (fun q => absurd rfl q)
  refine zW_eq (K hx' hm' adx' adm' H2 locs2 ls R' wx1 wm2 Px2 Pm2 Dx1 Dm2 dis2.sym S ?_) (by omega) (by omega)
  rw [ea 0 (List.getElem?_eq_some_iff.mp x0).1, eb 0 (List.getElem?_eq_some_iff.mp m0).1]
  exact hl
/-- fetch -/
theorem zk11x1 : Cond.methodLink R_law 61 zm128.1 ∈ zGT := zGT_mem 1045 (by decide +kernel) (by decide +kernel)
theorem zk11x2 : Cond.instanceMethod zm128.1 ∈ zGT := zGT_mem 1046 (by decide +kernel) (by decide +kernel)
theorem zk11x3 : Cond.selects "BookBarge" zm128.1 zm128.1 ∈ zGT := zGT_mem 1047 (by decide +kernel) (by decide +kernel)
theorem zk11x4 : zcal zm128 3 := ⟨zGT_mem 1048 (by decide +kernel) (by decide +kernel), zGT_mem 143 (by decide +kernel) (by decide +kernel), by decide +kernel⟩
theorem zk11m1 : Cond.methodLink R_law 65 zm247.1 ∈ zGT := zGT_mem 1894 (by decide +kernel) (by decide +kernel)
theorem zk11m2 : Cond.instanceMethod zm247.1 ∈ zGT := zGT_mem 1895 (by decide +kernel) (by decide +kernel)
theorem zk11m3 : Cond.selects "BookBargeModel" zm247.1 zm247.1 ∈ zGT := zGT_mem 1896 (by decide +kernel) (by decide +kernel)
theorem zk11m4 : zcal zm247 3 := ⟨zGT_mem 1897 (by decide +kernel) (by decide +kernel), zGT_mem 154 (by decide +kernel) (by decide +kernel), by decide +kernel⟩
set_option maxHeartbeats 4000000 in
theorem zl_c11 (F : zlF p s m meth c b L xs Gd cy adK adV) (hRB : zRBr Rel) (ho : zo11 Rel) (hL : L ≤ 3584) {n : Nat} (hn : 7 * n + 7 ≤ L) (K : zHd p l e s m below meth c b Gd cy Rel (n + 1) (7 * n) 1274) : zHd p l e s m below meth c b Gd cy Rel n (7 * n) 517 := by
  intro hx hm adx adm H locs ls R wx wm Px Pm Dx Dm dis S hl
  obtain ⟨r, hx', hm', ex, em, R'⟩ := ho n hx hm R (xs (7 * n + 1)) (xs (7 * n + 2)) (xs (7 * n + 3))
  have bx := (zsnd l _ _ _ _ _ _ _ ex).1
  have bm := (zsnd l _ _ _ _ _ _ _ em).1
  dsimp only at bx bm
  obtain ⟨-, ⟨nx, rx, x0⟩, ⟨nm, rm, m0⟩, -⟩ := hRB _ _ _ R
  obtain ⟨hB1, hB2⟩ := (hRB _ _ _ R').1 (by omega)
  refine lv_aload_n F.1 F.2.1 zd_517 rfl (lv_at hl 1 rfl) ?_
  refine zl_argA F hl zd_518 zd_519 ?_
  refine lv_iconst (v := 1) F.1 F.2.1 zd_520 (by decide) ?_
  refine zl_argB (k := 1) F rfl S (by omega) hL zd_521 zd_522 ?_
  refine zl_argA F hl zd_523 zd_524 ?_
  refine lv_iconst (v := 2) F.1 F.2.1 zd_525 (by decide) ?_
  refine zl_argB (k := 2) F rfl S (by omega) hL zd_526 zd_527 ?_
  refine zl_argA F hl zd_528 zd_529 ?_
  refine lv_iconst (v := 3) F.1 F.2.1 zd_530 (by decide) ?_
  refine zl_argB (k := 3) F rfl S (by omega) hL zd_531 zd_532 ?_
  refine zl_callV F.1 F.2.1 F.2.2.2.1 F.2.2.2.2.1 F.2.2.2.2.2.1 F.2.2.2.2.2.2.2.2.2 128 10 3 (as := [.int (xs (7 * n + 1)), .int (xs (7 * n + 2)), .int (xs (7 * n + 3))]) (rest := []) (h := hx) (h2 := hm) (h' := hx') (ad := adx) (ad2 := adm) ex (by decide) (by decide +kernel) (Nat.le_of_ble_eq_true rfl) (fun v hv => by simp only [List.mem_cons, List.not_mem_nil, or_false] at hv; rcases hv with rfl | rfl | rfl <;> exact ⟨_, rfl⟩) x0 (by decide) (r := (RX11, TX11, 17)) rfl wx rfl zk11x1 zk11x2 zk11x3 zk11x4 (by decide) hl.1 (Nat.le_of_ble_eq_true rfl) zd_533 Px Pm Dx dis S ⟨by have zr := zroom; show _ ≤ room_1.cells; omega, by have zr := zroom; show _ ≤ room_1.slots; omega⟩ ?_
  intro _ _ adx' H1 locs1 ea Px1 Pm1 Dx1 dis1 wx1 S
  refine lv_aload_n F.1 F.2.1 zd_536 rfl (lv_at hl 2 rfl) ?_
  refine zl_argA F hl zd_537 zd_538 ?_
  refine lv_iconst (v := 1) F.1 F.2.1 zd_539 (by decide) ?_
  refine zl_argB (k := 1) F rfl S (by omega) hL zd_540 zd_541 ?_
  refine zl_argA F hl zd_542 zd_543 ?_
  refine lv_iconst (v := 2) F.1 F.2.1 zd_544 (by decide) ?_
  refine zl_argB (k := 2) F rfl S (by omega) hL zd_545 zd_546 ?_
  refine zl_argA F hl zd_547 zd_548 ?_
  refine lv_iconst (v := 3) F.1 F.2.1 zd_549 (by decide) ?_
  refine zl_argB (k := 3) F rfl S (by omega) hL zd_550 zd_551 ?_
  refine zl_callV F.1 F.2.1 F.2.2.2.1 F.2.2.2.2.1 F.2.2.2.2.2.1 F.2.2.2.2.2.2.2.2.2 247 11 3 (as := [.int (xs (7 * n + 1)), .int (xs (7 * n + 2)), .int (xs (7 * n + 3))]) (rest := [.int r]) (h := hm) (h2 := hx') (h' := hm') (ad := adm) (ad2 := adx') em (by decide) (by decide +kernel) (Nat.le_of_ble_eq_true rfl) (fun v hv => by simp only [List.mem_cons, List.not_mem_nil, or_false] at hv; rcases hv with rfl | rfl | rfl <;> exact ⟨_, rfl⟩) m0 (by decide) (r := (RX12, TX12, 39)) rfl wm rfl zk11m1 zk11m2 zk11m3 zk11m4 (by decide) hl.1 (Nat.le_of_ble_eq_true rfl) zd_552 Pm1 Px1 Dm dis1.sym S ⟨by have zr := zroom; show _ ≤ room_1.cells; omega, by have zr := zroom; show _ ≤ room_1.slots; omega⟩ ?_
  intro _ _ adm' H2 locs2 eb Pm2 Px2 Dm2 dis2 wm2 S
  refine lv_icmp_eq (tgt := 1274) F.1 F.2.1 zd_555 (by decide) (fun _ => ?_) (fun q => absurd rfl q)
  refine zW_eq (K hx' hm' adx' adm' H2 locs2 ls R' wx1 wm2 Px2 Pm2 Dx1 Dm2 dis2.sym S ?_) (by omega) (by omega)
  rw [ea 0 (List.getElem?_eq_some_iff.mp x0).1, eb 0 (List.getElem?_eq_some_iff.mp m0).1]
  exact hl
/-- shift -/
theorem zk12x1 : Cond.methodLink R_law 66 zm129.1 ∈ zGT := zGT_mem 1066 (by decide +kernel) (by decide +kernel)
theorem zk12x2 : Cond.instanceMethod zm129.1 ∈ zGT := zGT_mem 1067 (by decide +kernel) (by decide +kernel)
theorem zk12x3 : Cond.selects "BookBarge" zm129.1 zm129.1 ∈ zGT := zGT_mem 1068 (by decide +kernel) (by decide +kernel)
theorem zk12x4 : zcal zm129 2 := ⟨zGT_mem 1069 (by decide +kernel) (by decide +kernel), zGT_mem 143 (by decide +kernel) (by decide +kernel), by decide +kernel⟩
theorem zk12m1 : Cond.methodLink R_law 69 zm248.1 ∈ zGT := zGT_mem 1912 (by decide +kernel) (by decide +kernel)
theorem zk12m2 : Cond.instanceMethod zm248.1 ∈ zGT := zGT_mem 1913 (by decide +kernel) (by decide +kernel)
theorem zk12m3 : Cond.selects "BookBargeModel" zm248.1 zm248.1 ∈ zGT := zGT_mem 1914 (by decide +kernel) (by decide +kernel)
theorem zk12m4 : zcal zm248 2 := ⟨zGT_mem 1915 (by decide +kernel) (by decide +kernel), zGT_mem 154 (by decide +kernel) (by decide +kernel), by decide +kernel⟩
set_option maxHeartbeats 4000000 in
theorem zl_c12 (F : zlF p s m meth c b L xs Gd cy adK adV) (hRB : zRBr Rel) (ho : zo12 Rel) (hL : L ≤ 3584) {n : Nat} (hn : 7 * n + 7 ≤ L) (K : zHd p l e s m below meth c b Gd cy Rel (n + 1) (7 * n) 1274) : zHd p l e s m below meth c b Gd cy Rel n (7 * n) 560 := by
  intro hx hm adx adm H locs ls R wx wm Px Pm Dx Dm dis S hl
  obtain ⟨r, hx', hm', ex, em, R'⟩ := ho n hx hm R (xs (7 * n + 1)) (xs (7 * n + 2))
  have bx := (zsnd l _ _ _ _ _ _ _ ex).1
  have bm := (zsnd l _ _ _ _ _ _ _ em).1
  dsimp only at bx bm
  obtain ⟨-, ⟨nx, rx, x0⟩, ⟨nm, rm, m0⟩, -⟩ := hRB _ _ _ R
  obtain ⟨hB1, hB2⟩ := (hRB _ _ _ R').1 (by omega)
  refine lv_aload_n F.1 F.2.1 zd_560 rfl (lv_at hl 1 rfl) ?_
  refine zl_argA F hl zd_561 zd_562 ?_
  refine lv_iconst (v := 1) F.1 F.2.1 zd_563 (by decide) ?_
  refine zl_argB (k := 1) F rfl S (by omega) hL zd_564 zd_565 ?_
  refine zl_argA F hl zd_566 zd_567 ?_
  refine lv_iconst (v := 2) F.1 F.2.1 zd_568 (by decide) ?_
  refine zl_argB (k := 2) F rfl S (by omega) hL zd_569 zd_570 ?_
  refine zl_callV F.1 F.2.1 F.2.2.2.1 F.2.2.2.2.1 F.2.2.2.2.2.1 F.2.2.2.2.2.2.2.2.2 129 10 2 (as := [.int (xs (7 * n + 1)), .int (xs (7 * n + 2))]) (rest := []) (h := hx) (h2 := hm) (h' := hx') (ad := adx) (ad2 := adm) ex (by decide) (by decide +kernel) (Nat.le_of_ble_eq_true rfl) (fun v hv => by simp only [List.mem_cons, List.not_mem_nil, or_false] at hv; rcases hv with rfl | rfl <;> exact ⟨_, rfl⟩) x0 (by decide) (r := (RX11, TX11, 17)) rfl wx rfl zk12x1 zk12x2 zk12x3 zk12x4 (by decide) hl.1 (Nat.le_of_ble_eq_true rfl) zd_571 Px Pm Dx dis S ⟨by have zr := zroom; show _ ≤ room_1.cells; omega, by have zr := zroom; show _ ≤ room_1.slots; omega⟩ ?_
  intro _ _ adx' H1 locs1 ea Px1 Pm1 Dx1 dis1 wx1 S
  refine lv_aload_n F.1 F.2.1 zd_574 rfl (lv_at hl 2 rfl) ?_
  refine zl_argA F hl zd_575 zd_576 ?_
  refine lv_iconst (v := 1) F.1 F.2.1 zd_577 (by decide) ?_
  refine zl_argB (k := 1) F rfl S (by omega) hL zd_578 zd_579 ?_
  refine zl_argA F hl zd_580 zd_581 ?_
  refine lv_iconst (v := 2) F.1 F.2.1 zd_582 (by decide) ?_
  refine zl_argB (k := 2) F rfl S (by omega) hL zd_583 zd_584 ?_
  refine zl_callV F.1 F.2.1 F.2.2.2.1 F.2.2.2.2.1 F.2.2.2.2.2.1 F.2.2.2.2.2.2.2.2.2 248 11 2 (as := [.int (xs (7 * n + 1)), .int (xs (7 * n + 2))]) (rest := [.int r]) (h := hm) (h2 := hx') (h' := hm') (ad := adm) (ad2 := adx') em (by decide) (by decide +kernel) (Nat.le_of_ble_eq_true rfl) (fun v hv => by simp only [List.mem_cons, List.not_mem_nil, or_false] at hv; rcases hv with rfl | rfl <;> exact ⟨_, rfl⟩) m0 (by decide) (r := (RX12, TX12, 39)) rfl wm rfl zk12m1 zk12m2 zk12m3 zk12m4 (by decide) hl.1 (Nat.le_of_ble_eq_true rfl) zd_585 Pm1 Px1 Dm dis1.sym S ⟨by have zr := zroom; show _ ≤ room_1.cells; omega, by have zr := zroom; show _ ≤ room_1.slots; omega⟩ ?_
  intro _ _ adm' H2 locs2 eb Pm2 Px2 Dm2 dis2 wm2 S
  refine lv_icmp_eq (tgt := 1274) F.1 F.2.1 zd_588 (by decide) (fun _ => ?_) (fun q => absurd rfl q)
  refine zW_eq (K hx' hm' adx' adm' H2 locs2 ls R' wx1 wm2 Px2 Pm2 Dx1 Dm2 dis2.sym S ?_) (by omega) (by omega)
  rw [ea 0 (List.getElem?_eq_some_iff.mp x0).1, eb 0 (List.getElem?_eq_some_iff.mp m0).1]
  exact hl
/-- hand -/
theorem zk13x1 : Cond.methodLink R_law 70 zm130.1 ∈ zGT := zGT_mem 1070 (by decide +kernel) (by decide +kernel)
theorem zk13x2 : Cond.instanceMethod zm130.1 ∈ zGT := zGT_mem 1071 (by decide +kernel) (by decide +kernel)
theorem zk13x3 : Cond.selects "BookBarge" zm130.1 zm130.1 ∈ zGT := zGT_mem 1072 (by decide +kernel) (by decide +kernel)
theorem zk13x4 : zcal zm130 2 := ⟨zGT_mem 1073 (by decide +kernel) (by decide +kernel), zGT_mem 143 (by decide +kernel) (by decide +kernel), by decide +kernel⟩
theorem zk13m1 : Cond.methodLink R_law 73 zm249.1 ∈ zGT := zGT_mem 1916 (by decide +kernel) (by decide +kernel)
theorem zk13m2 : Cond.instanceMethod zm249.1 ∈ zGT := zGT_mem 1917 (by decide +kernel) (by decide +kernel)
theorem zk13m3 : Cond.selects "BookBargeModel" zm249.1 zm249.1 ∈ zGT := zGT_mem 1918 (by decide +kernel) (by decide +kernel)
theorem zk13m4 : zcal zm249 2 := ⟨zGT_mem 1919 (by decide +kernel) (by decide +kernel), zGT_mem 154 (by decide +kernel) (by decide +kernel), by decide +kernel⟩
set_option maxHeartbeats 4000000 in
theorem zl_c13 (F : zlF p s m meth c b L xs Gd cy adK adV) (hRB : zRBr Rel) (ho : zo13 Rel) (hL : L ≤ 3584) {n : Nat} (hn : 7 * n + 7 ≤ L) (K : zHd p l e s m below meth c b Gd cy Rel (n + 1) (7 * n) 1274) : zHd p l e s m below meth c b Gd cy Rel n (7 * n) 593 := by
  intro hx hm adx adm H locs ls R wx wm Px Pm Dx Dm dis S hl
  obtain ⟨r, hx', hm', ex, em, R'⟩ := ho n hx hm R (xs (7 * n + 1)) (xs (7 * n + 2))
  have bx := (zsnd l _ _ _ _ _ _ _ ex).1
  have bm := (zsnd l _ _ _ _ _ _ _ em).1
  dsimp only at bx bm
  obtain ⟨-, ⟨nx, rx, x0⟩, ⟨nm, rm, m0⟩, -⟩ := hRB _ _ _ R
  obtain ⟨hB1, hB2⟩ := (hRB _ _ _ R').1 (by omega)
  refine lv_aload_n F.1 F.2.1 zd_593 rfl (lv_at hl 1 rfl) ?_
  refine zl_argA F hl zd_594 zd_595 ?_
  refine lv_iconst (v := 1) F.1 F.2.1 zd_596 (by decide) ?_
  refine zl_argB (k := 1) F rfl S (by omega) hL zd_597 zd_598 ?_
  refine zl_argA F hl zd_599 zd_600 ?_
  refine lv_iconst (v := 2) F.1 F.2.1 zd_601 (by decide) ?_
  refine zl_argB (k := 2) F rfl S (by omega) hL zd_602 zd_603 ?_
  refine zl_callV F.1 F.2.1 F.2.2.2.1 F.2.2.2.2.1 F.2.2.2.2.2.1 F.2.2.2.2.2.2.2.2.2 130 10 2 (as := [.int (xs (7 * n + 1)), .int (xs (7 * n + 2))]) (rest := []) (h := hx) (h2 := hm) (h' := hx') (ad := adx) (ad2 := adm) ex (by decide) (by decide +kernel) (Nat.le_of_ble_eq_true rfl) (fun v hv => by simp only [List.mem_cons, List.not_mem_nil, or_false] at hv; rcases hv with rfl | rfl <;> exact ⟨_, rfl⟩) x0 (by decide) (r := (RX11, TX11, 17)) rfl wx rfl zk13x1 zk13x2 zk13x3 zk13x4 (by decide) hl.1 (Nat.le_of_ble_eq_true rfl) zd_604 Px Pm Dx dis S ⟨by have zr := zroom; show _ ≤ room_1.cells; omega, by have zr := zroom; show _ ≤ room_1.slots; omega⟩ ?_
  intro _ _ adx' H1 locs1 ea Px1 Pm1 Dx1 dis1 wx1 S
  refine lv_aload_n F.1 F.2.1 zd_607 rfl (lv_at hl 2 rfl) ?_
  refine zl_argA F hl zd_608 zd_609 ?_
  refine lv_iconst (v := 1) F.1 F.2.1 zd_610 (by decide) ?_
  refine zl_argB (k := 1) F rfl S (by omega) hL zd_611 zd_612 ?_
  refine zl_argA F hl zd_613 zd_614 ?_
  refine lv_iconst (v := 2) F.1 F.2.1 zd_615 (by decide) ?_
  refine zl_argB (k := 2) F rfl S (by omega) hL zd_616 zd_617 ?_
  refine zl_callV F.1 F.2.1 F.2.2.2.1 F.2.2.2.2.1 F.2.2.2.2.2.1 F.2.2.2.2.2.2.2.2.2 249 11 2 (as := [.int (xs (7 * n + 1)), .int (xs (7 * n + 2))]) (rest := [.int r]) (h := hm) (h2 := hx') (h' := hm') (ad := adm) (ad2 := adx') em (by decide) (by decide +kernel) (Nat.le_of_ble_eq_true rfl) (fun v hv => by simp only [List.mem_cons, List.not_mem_nil, or_false] at hv; rcases hv with rfl | rfl <;> exact ⟨_, rfl⟩) m0 (by decide) (r := (RX12, TX12, 39)) rfl wm rfl zk13m1 zk13m2 zk13m3 zk13m4 (by decide) hl.1 (Nat.le_of_ble_eq_true rfl) zd_618 Pm1 Px1 Dm dis1.sym S ⟨by have zr := zroom; show _ ≤ room_1.cells; omega, by have zr := zroom; show _ ≤ room_1.slots; omega⟩ ?_
  intro _ _ adm' H2 locs2 eb Pm2 Px2 Dm2 dis2 wm2 S
  refine lv_icmp_eq (tgt := 1274) F.1 F.2.1 zd_621 (by decide) (fun _ => ?_) (fun q => absurd rfl q)
  refine zW_eq (K hx' hm' adx' adm' H2 locs2 ls R' wx1 wm2 Px2 Pm2 Dx1 Dm2 dis2.sym S ?_) (by omega) (by omega)
  rw [ea 0 (List.getElem?_eq_some_iff.mp x0).1, eb 0 (List.getElem?_eq_some_iff.mp m0).1]
  exact hl
/-- sail -/
theorem zk14x1 : Cond.methodLink R_law 74 zm131.1 ∈ zGT := zGT_mem 1079 (by decide +kernel) (by decide +kernel)
theorem zk14x2 : Cond.instanceMethod zm131.1 ∈ zGT := zGT_mem 1080 (by decide +kernel) (by decide +kernel)
theorem zk14x3 : Cond.selects "BookBarge" zm131.1 zm131.1 ∈ zGT := zGT_mem 1081 (by decide +kernel) (by decide +kernel)
theorem zk14x4 : zcal zm131 2 := ⟨zGT_mem 1082 (by decide +kernel) (by decide +kernel), zGT_mem 143 (by decide +kernel) (by decide +kernel), by decide +kernel⟩
theorem zk14m1 : Cond.methodLink R_law 78 zm250.1 ∈ zGT := zGT_mem 1920 (by decide +kernel) (by decide +kernel)
theorem zk14m2 : Cond.instanceMethod zm250.1 ∈ zGT := zGT_mem 1921 (by decide +kernel) (by decide +kernel)
theorem zk14m3 : Cond.selects "BookBargeModel" zm250.1 zm250.1 ∈ zGT := zGT_mem 1922 (by decide +kernel) (by decide +kernel)
theorem zk14m4 : zcal zm250 2 := ⟨zGT_mem 1923 (by decide +kernel) (by decide +kernel), zGT_mem 154 (by decide +kernel) (by decide +kernel), by decide +kernel⟩
set_option maxHeartbeats 4000000 in
theorem zl_c14 (F : zlF p s m meth c b L xs Gd cy adK adV) (hRB : zRBr Rel) (ho : zo14 Rel) (hL : L ≤ 3584) {n : Nat} (hn : 7 * n + 7 ≤ L) (K : zHd p l e s m below meth c b Gd cy Rel (n + 1) (7 * n) 1274) : zHd p l e s m below meth c b Gd cy Rel n (7 * n) 626 := by
  intro hx hm adx adm H locs ls R wx wm Px Pm Dx Dm dis S hl
  obtain ⟨r, hx', hm', ex, em, R'⟩ := ho n hx hm R (xs (7 * n + 1)) (xs (7 * n + 2))
  have bx := (zsnd l _ _ _ _ _ _ _ ex).1
  have bm := (zsnd l _ _ _ _ _ _ _ em).1
  dsimp only at bx bm
  obtain ⟨-, ⟨nx, rx, x0⟩, ⟨nm, rm, m0⟩, -⟩ := hRB _ _ _ R
  obtain ⟨hB1, hB2⟩ := (hRB _ _ _ R').1 (by omega)
  refine lv_aload_n F.1 F.2.1 zd_626 rfl (lv_at hl 1 rfl) ?_
  refine zl_argA F hl zd_627 zd_628 ?_
  refine lv_iconst (v := 1) F.1 F.2.1 zd_629 (by decide) ?_
  refine zl_argB (k := 1) F rfl S (by omega) hL zd_630 zd_631 ?_
  refine zl_argA F hl zd_632 zd_633 ?_
  refine lv_iconst (v := 2) F.1 F.2.1 zd_634 (by decide) ?_
  refine zl_argB (k := 2) F rfl S (by omega) hL zd_635 zd_636 ?_
  refine zl_bool F zd_637 zd_640 zd_641 zd_644 ?_
  refine zl_callV F.1 F.2.1 F.2.2.2.1 F.2.2.2.2.1 F.2.2.2.2.2.1 F.2.2.2.2.2.2.2.2.2 131 10 2 (as := [.int (xs (7 * n + 1)), .int (if xs (7 * n + 2) = 0 then 0 else 1)]) (rest := []) (h := hx) (h2 := hm) (h' := hx') (ad := adx) (ad2 := adm) ex (by decide) (by decide +kernel) (Nat.le_of_ble_eq_true rfl) (fun v hv => by simp only [List.mem_cons, List.not_mem_nil, or_false] at hv; rcases hv with rfl | rfl <;> exact ⟨_, rfl⟩) x0 (by decide) (r := (RX11, TX11, 17)) rfl wx rfl zk14x1 zk14x2 zk14x3 zk14x4 (by decide) hl.1 (Nat.le_of_ble_eq_true rfl) zd_645 Px Pm Dx dis S ⟨by have zr := zroom; show _ ≤ room_1.cells; omega, by have zr := zroom; show _ ≤ room_1.slots; omega⟩ ?_
  intro _ _ adx' H1 locs1 ea Px1 Pm1 Dx1 dis1 wx1 S
  refine lv_aload_n F.1 F.2.1 zd_648 rfl (lv_at hl 2 rfl) ?_
  refine zl_argA F hl zd_649 zd_650 ?_
  refine lv_iconst (v := 1) F.1 F.2.1 zd_651 (by decide) ?_
  refine zl_argB (k := 1) F rfl S (by omega) hL zd_652 zd_653 ?_
  refine zl_argA F hl zd_654 zd_655 ?_
  refine lv_iconst (v := 2) F.1 F.2.1 zd_656 (by decide) ?_
  refine zl_argB (k := 2) F rfl S (by omega) hL zd_657 zd_658 ?_
  refine zl_bool F zd_659 zd_662 zd_663 zd_666 ?_
  refine zl_callV F.1 F.2.1 F.2.2.2.1 F.2.2.2.2.1 F.2.2.2.2.2.1 F.2.2.2.2.2.2.2.2.2 250 11 2 (as := [.int (xs (7 * n + 1)), .int (if xs (7 * n + 2) = 0 then 0 else 1)]) (rest := [.int r]) (h := hm) (h2 := hx') (h' := hm') (ad := adm) (ad2 := adx') em (by decide) (by decide +kernel) (Nat.le_of_ble_eq_true rfl) (fun v hv => by simp only [List.mem_cons, List.not_mem_nil, or_false] at hv; rcases hv with rfl | rfl <;> exact ⟨_, rfl⟩) m0 (by decide) (r := (RX12, TX12, 39)) rfl wm rfl zk14m1 zk14m2 zk14m3 zk14m4 (by decide) hl.1 (Nat.le_of_ble_eq_true rfl) zd_667 Pm1 Px1 Dm dis1.sym S ⟨by have zr := zroom; show _ ≤ room_1.cells; omega, by have zr := zroom; show _ ≤ room_1.slots; omega⟩ ?_
  intro _ _ adm' H2 locs2 eb Pm2 Px2 Dm2 dis2 wm2 S
  refine lv_icmp_eq (tgt := 1274) F.1 F.2.1 zd_670 (by decide) (fun _ => ?_) (fun q => absurd rfl q)
  refine zW_eq (K hx' hm' adx' adm' H2 locs2 ls R' wx1 wm2 Px2 Pm2 Dx1 Dm2 dis2.sym S ?_) (by omega) (by omega)
  rw [ea 0 (List.getElem?_eq_some_iff.mp x0).1, eb 0 (List.getElem?_eq_some_iff.mp m0).1]
  exact hl
/-- night -/
theorem zk15x1 : Cond.methodLink R_law 79 zm132.1 ∈ zGT := zGT_mem 1083 (by decide +kernel) (by decide +kernel)
theorem zk15x2 : Cond.instanceMethod zm132.1 ∈ zGT := zGT_mem 1084 (by decide +kernel) (by decide +kernel)
theorem zk15x3 : Cond.selects "BookBarge" zm132.1 zm132.1 ∈ zGT := zGT_mem 1085 (by decide +kernel) (by decide +kernel)
theorem zk15x4 : zcal zm132 0 := ⟨zGT_mem 1086 (by decide +kernel) (by decide +kernel), zGT_mem 143 (by decide +kernel) (by decide +kernel), by decide +kernel⟩
theorem zk15m1 : Cond.methodLink R_law 82 zm252.1 ∈ zGT := zGT_mem 1924 (by decide +kernel) (by decide +kernel)
theorem zk15m2 : Cond.instanceMethod zm252.1 ∈ zGT := zGT_mem 1925 (by decide +kernel) (by decide +kernel)
theorem zk15m3 : Cond.selects "BookBargeModel" zm252.1 zm252.1 ∈ zGT := zGT_mem 1926 (by decide +kernel) (by decide +kernel)
theorem zk15m4 : zcal zm252 0 := ⟨zGT_mem 1927 (by decide +kernel) (by decide +kernel), zGT_mem 154 (by decide +kernel) (by decide +kernel), by decide +kernel⟩
set_option maxHeartbeats 4000000 in
theorem zl_c15 (F : zlF p s m meth c b L xs Gd cy adK adV) (hRB : zRBr Rel) (ho : zo15 Rel) (hL : L ≤ 3584) {n : Nat} (hn : 7 * n + 7 ≤ L) (K : zHd p l e s m below meth c b Gd cy Rel (n + 1) (7 * n) 1274) : zHd p l e s m below meth c b Gd cy Rel n (7 * n) 675 := by
  intro hx hm adx adm H locs ls R wx wm Px Pm Dx Dm dis S hl
  obtain ⟨r, hx', hm', ex, em, R'⟩ := ho n hx hm R
  have bx := (zsnd l _ _ _ _ _ _ _ ex).1
  have bm := (zsnd l _ _ _ _ _ _ _ em).1
  dsimp only at bx bm
  obtain ⟨-, ⟨nx, rx, x0⟩, ⟨nm, rm, m0⟩, -⟩ := hRB _ _ _ R
  obtain ⟨hB1, hB2⟩ := (hRB _ _ _ R').1 (by omega)
  refine lv_aload_n F.1 F.2.1 zd_675 rfl (lv_at hl 1 rfl) ?_
  refine zl_callV F.1 F.2.1 F.2.2.2.1 F.2.2.2.2.1 F.2.2.2.2.2.1 F.2.2.2.2.2.2.2.2.2 132 10 0 (as := []) (rest := []) (h := hx) (h2 := hm) (h' := hx') (ad := adx) (ad2 := adm) ex (by decide) (by decide +kernel) (Nat.le_of_ble_eq_true rfl) (fun v hv => absurd hv List.not_mem_nil) x0 (by decide) (r := (RX11, TX11, 17)) rfl wx rfl zk15x1 zk15x2 zk15x3 zk15x4 (by decide) hl.1 (Nat.le_of_ble_eq_true rfl) zd_676 Px Pm Dx dis S ⟨by have zr := zroom; show _ ≤ room_1.cells; omega, by have zr := zroom; show _ ≤ room_1.slots; omega⟩ ?_
  intro _ _ adx' H1 locs1 ea Px1 Pm1 Dx1 dis1 wx1 S
  refine lv_aload_n F.1 F.2.1 zd_679 rfl (lv_at hl 2 rfl) ?_
  refine zl_callV F.1 F.2.1 F.2.2.2.1 F.2.2.2.2.1 F.2.2.2.2.2.1 F.2.2.2.2.2.2.2.2.2 252 11 0 (as := []) (rest := [.int r]) (h := hm) (h2 := hx') (h' := hm') (ad := adm) (ad2 := adx') em (by decide) (by decide +kernel) (Nat.le_of_ble_eq_true rfl) (fun v hv => absurd hv List.not_mem_nil) m0 (by decide) (r := (RX12, TX12, 39)) rfl wm rfl zk15m1 zk15m2 zk15m3 zk15m4 (by decide) hl.1 (Nat.le_of_ble_eq_true rfl) zd_680 Pm1 Px1 Dm dis1.sym S ⟨by have zr := zroom; show _ ≤ room_1.cells; omega, by have zr := zroom; show _ ≤ room_1.slots; omega⟩ ?_
  intro _ _ adm' H2 locs2 eb Pm2 Px2 Dm2 dis2 wm2 S
  refine lv_icmp_eq (tgt := 1274) F.1 F.2.1 zd_683 (by decide) (fun _ => ?_) (fun q => absurd rfl q)
  refine zW_eq (K hx' hm' adx' adm' H2 locs2 ls R' wx1 wm2 Px2 Pm2 Dx1 Dm2 dis2.sym S ?_) (by omega) (by omega)
  rw [ea 0 (List.getElem?_eq_some_iff.mp x0).1, eb 0 (List.getElem?_eq_some_iff.mp m0).1]
  exact hl
/-- rain -/
theorem zk16x1 : Cond.methodLink R_law 83 zm133.1 ∈ zGT := zGT_mem 1099 (by decide +kernel) (by decide +kernel)
theorem zk16x2 : Cond.instanceMethod zm133.1 ∈ zGT := zGT_mem 1100 (by decide +kernel) (by decide +kernel)
theorem zk16x3 : Cond.selects "BookBarge" zm133.1 zm133.1 ∈ zGT := zGT_mem 1101 (by decide +kernel) (by decide +kernel)
theorem zk16x4 : zcal zm133 0 := ⟨zGT_mem 1102 (by decide +kernel) (by decide +kernel), zGT_mem 143 (by decide +kernel) (by decide +kernel), by decide +kernel⟩
theorem zk16m1 : Cond.methodLink R_law 86 zm255.1 ∈ zGT := zGT_mem 1932 (by decide +kernel) (by decide +kernel)
theorem zk16m2 : Cond.instanceMethod zm255.1 ∈ zGT := zGT_mem 1933 (by decide +kernel) (by decide +kernel)
theorem zk16m3 : Cond.selects "BookBargeModel" zm255.1 zm255.1 ∈ zGT := zGT_mem 1934 (by decide +kernel) (by decide +kernel)
theorem zk16m4 : zcal zm255 0 := ⟨zGT_mem 1935 (by decide +kernel) (by decide +kernel), zGT_mem 154 (by decide +kernel) (by decide +kernel), by decide +kernel⟩
set_option maxHeartbeats 4000000 in
theorem zl_c16 (F : zlF p s m meth c b L xs Gd cy adK adV) (hRB : zRBr Rel) (ho : zo16 Rel) (hL : L ≤ 3584) {n : Nat} (hn : 7 * n + 7 ≤ L) (K : zHd p l e s m below meth c b Gd cy Rel (n + 1) (7 * n) 1274) : zHd p l e s m below meth c b Gd cy Rel n (7 * n) 688 := by
  intro hx hm adx adm H locs ls R wx wm Px Pm Dx Dm dis S hl
  obtain ⟨r, hx', hm', ex, em, R'⟩ := ho n hx hm R
  have bx := (zsnd l _ _ _ _ _ _ _ ex).1
  have bm := (zsnd l _ _ _ _ _ _ _ em).1
  dsimp only at bx bm
  obtain ⟨-, ⟨nx, rx, x0⟩, ⟨nm, rm, m0⟩, -⟩ := hRB _ _ _ R
  obtain ⟨hB1, hB2⟩ := (hRB _ _ _ R').1 (by omega)
  refine lv_aload_n F.1 F.2.1 zd_688 rfl (lv_at hl 1 rfl) ?_
  refine zl_callV F.1 F.2.1 F.2.2.2.1 F.2.2.2.2.1 F.2.2.2.2.2.1 F.2.2.2.2.2.2.2.2.2 133 10 0 (as := []) (rest := []) (h := hx) (h2 := hm) (h' := hx') (ad := adx) (ad2 := adm) ex (by decide) (by decide +kernel) (Nat.le_of_ble_eq_true rfl) (fun v hv => absurd hv List.not_mem_nil) x0 (by decide) (r := (RX11, TX11, 17)) rfl wx rfl zk16x1 zk16x2 zk16x3 zk16x4 (by decide) hl.1 (Nat.le_of_ble_eq_true rfl) zd_689 Px Pm Dx dis S ⟨by have zr := zroom; show _ ≤ room_1.cells; omega, by have zr := zroom; show _ ≤ room_1.slots; omega⟩ ?_
  intro _ _ adx' H1 locs1 ea Px1 Pm1 Dx1 dis1 wx1 S
  refine lv_aload_n F.1 F.2.1 zd_692 rfl (lv_at hl 2 rfl) ?_
  refine zl_callV F.1 F.2.1 F.2.2.2.1 F.2.2.2.2.1 F.2.2.2.2.2.1 F.2.2.2.2.2.2.2.2.2 255 11 0 (as := []) (rest := [.int r]) (h := hm) (h2 := hx') (h' := hm') (ad := adm) (ad2 := adx') em (by decide) (by decide +kernel) (Nat.le_of_ble_eq_true rfl) (fun v hv => absurd hv List.not_mem_nil) m0 (by decide) (r := (RX12, TX12, 39)) rfl wm rfl zk16m1 zk16m2 zk16m3 zk16m4 (by decide) hl.1 (Nat.le_of_ble_eq_true rfl) zd_693 Pm1 Px1 Dm dis1.sym S ⟨by have zr := zroom; show _ ≤ room_1.cells; omega, by have zr := zroom; show _ ≤ room_1.slots; omega⟩ ?_
  intro _ _ adm' H2 locs2 eb Pm2 Px2 Dm2 dis2 wm2 S
  refine lv_icmp_eq (tgt := 1274) F.1 F.2.1 zd_696 (by decide) (fun _ => ?_) (fun q => absurd rfl q)
  refine zW_eq (K hx' hm' adx' adm' H2 locs2 ls R' wx1 wm2 Px2 Pm2 Dx1 Dm2 dis2.sym S ?_) (by omega) (by omega)
  rw [ea 0 (List.getElem?_eq_some_iff.mp x0).1, eb 0 (List.getElem?_eq_some_iff.mp m0).1]
  exact hl
/-- pump -/
theorem zk17x1 : Cond.methodLink R_law 87 zm134.1 ∈ zGT := zGT_mem 1116 (by decide +kernel) (by decide +kernel)
theorem zk17x2 : Cond.instanceMethod zm134.1 ∈ zGT := zGT_mem 1117 (by decide +kernel) (by decide +kernel)
theorem zk17x3 : Cond.selects "BookBarge" zm134.1 zm134.1 ∈ zGT := zGT_mem 1118 (by decide +kernel) (by decide +kernel)
theorem zk17x4 : zcal zm134 1 := ⟨zGT_mem 1119 (by decide +kernel) (by decide +kernel), zGT_mem 143 (by decide +kernel) (by decide +kernel), by decide +kernel⟩
theorem zk17m1 : Cond.methodLink R_law 90 zm256.1 ∈ zGT := zGT_mem 1944 (by decide +kernel) (by decide +kernel)
theorem zk17m2 : Cond.instanceMethod zm256.1 ∈ zGT := zGT_mem 1945 (by decide +kernel) (by decide +kernel)
theorem zk17m3 : Cond.selects "BookBargeModel" zm256.1 zm256.1 ∈ zGT := zGT_mem 1946 (by decide +kernel) (by decide +kernel)
theorem zk17m4 : zcal zm256 1 := ⟨zGT_mem 1947 (by decide +kernel) (by decide +kernel), zGT_mem 154 (by decide +kernel) (by decide +kernel), by decide +kernel⟩
set_option maxHeartbeats 4000000 in
theorem zl_c17 (F : zlF p s m meth c b L xs Gd cy adK adV) (hRB : zRBr Rel) (ho : zo17 Rel) (hL : L ≤ 3584) {n : Nat} (hn : 7 * n + 7 ≤ L) (K : zHd p l e s m below meth c b Gd cy Rel (n + 1) (7 * n) 1274) : zHd p l e s m below meth c b Gd cy Rel n (7 * n) 701 := by
  intro hx hm adx adm H locs ls R wx wm Px Pm Dx Dm dis S hl
  obtain ⟨r, hx', hm', ex, em, R'⟩ := ho n hx hm R (xs (7 * n + 1))
  have bx := (zsnd l _ _ _ _ _ _ _ ex).1
  have bm := (zsnd l _ _ _ _ _ _ _ em).1
  dsimp only at bx bm
  obtain ⟨-, ⟨nx, rx, x0⟩, ⟨nm, rm, m0⟩, -⟩ := hRB _ _ _ R
  obtain ⟨hB1, hB2⟩ := (hRB _ _ _ R').1 (by omega)
  refine lv_aload_n F.1 F.2.1 zd_701 rfl (lv_at hl 1 rfl) ?_
  refine zl_argA F hl zd_702 zd_703 ?_
  refine lv_iconst (v := 1) F.1 F.2.1 zd_704 (by decide) ?_
  refine zl_argB (k := 1) F rfl S (by omega) hL zd_705 zd_706 ?_
  refine zl_callV F.1 F.2.1 F.2.2.2.1 F.2.2.2.2.1 F.2.2.2.2.2.1 F.2.2.2.2.2.2.2.2.2 134 10 1 (as := [.int (xs (7 * n + 1))]) (rest := []) (h := hx) (h2 := hm) (h' := hx') (ad := adx) (ad2 := adm) ex (by decide) (by decide +kernel) (Nat.le_of_ble_eq_true rfl) (fun v hv => by simp only [List.mem_cons, List.not_mem_nil, or_false] at hv; subst hv; exact ⟨_, rfl⟩) x0 (by decide) (r := (RX11, TX11, 17)) rfl wx rfl zk17x1 zk17x2 zk17x3 zk17x4 (by decide) hl.1 (Nat.le_of_ble_eq_true rfl) zd_707 Px Pm Dx dis S ⟨by have zr := zroom; show _ ≤ room_1.cells; omega, by have zr := zroom; show _ ≤ room_1.slots; omega⟩ ?_
  intro _ _ adx' H1 locs1 ea Px1 Pm1 Dx1 dis1 wx1 S
  refine lv_aload_n F.1 F.2.1 zd_710 rfl (lv_at hl 2 rfl) ?_
  refine zl_argA F hl zd_711 zd_712 ?_
  refine lv_iconst (v := 1) F.1 F.2.1 zd_713 (by decide) ?_
  refine zl_argB (k := 1) F rfl S (by omega) hL zd_714 zd_715 ?_
  refine zl_callV F.1 F.2.1 F.2.2.2.1 F.2.2.2.2.1 F.2.2.2.2.2.1 F.2.2.2.2.2.2.2.2.2 256 11 1 (as := [.int (xs (7 * n + 1))]) (rest := [.int r]) (h := hm) (h2 := hx') (h' := hm') (ad := adm) (ad2 := adx') em (by decide) (by decide +kernel) (Nat.le_of_ble_eq_true rfl) (fun v hv => by simp only [List.mem_cons, List.not_mem_nil, or_false] at hv; subst hv; exact ⟨_, rfl⟩) m0 (by decide) (r := (RX12, TX12, 39)) rfl wm rfl zk17m1 zk17m2 zk17m3 zk17m4 (by decide) hl.1 (Nat.le_of_ble_eq_true rfl) zd_716 Pm1 Px1 Dm dis1.sym S ⟨by have zr := zroom; show _ ≤ room_1.cells; omega, by have zr := zroom; show _ ≤ room_1.slots; omega⟩ ?_
  intro _ _ adm' H2 locs2 eb Pm2 Px2 Dm2 dis2 wm2 S
  refine lv_icmp_eq (tgt := 1274) F.1 F.2.1 zd_719 (by decide) (fun _ => ?_) (fun q => absurd rfl q)
  refine zW_eq (K hx' hm' adx' adm' H2 locs2 ls R' wx1 wm2 Px2 Pm2 Dx1 Dm2 dis2.sym S ?_) (by omega) (by omega)
  rw [ea 0 (List.getElem?_eq_some_iff.mp x0).1, eb 0 (List.getElem?_eq_some_iff.mp m0).1]
  exact hl
/-- plug -/
theorem zk18x1 : Cond.methodLink R_law 91 zm135.1 ∈ zGT := zGT_mem 1120 (by decide +kernel) (by decide +kernel)
theorem zk18x2 : Cond.instanceMethod zm135.1 ∈ zGT := zGT_mem 1121 (by decide +kernel) (by decide +kernel)
theorem zk18x3 : Cond.selects "BookBarge" zm135.1 zm135.1 ∈ zGT := zGT_mem 1122 (by decide +kernel) (by decide +kernel)
theorem zk18x4 : zcal zm135 2 := ⟨zGT_mem 1123 (by decide +kernel) (by decide +kernel), zGT_mem 143 (by decide +kernel) (by decide +kernel), by decide +kernel⟩
theorem zk18m1 : Cond.methodLink R_law 94 zm258.1 ∈ zGT := zGT_mem 1948 (by decide +kernel) (by decide +kernel)
theorem zk18m2 : Cond.instanceMethod zm258.1 ∈ zGT := zGT_mem 1949 (by decide +kernel) (by decide +kernel)
theorem zk18m3 : Cond.selects "BookBargeModel" zm258.1 zm258.1 ∈ zGT := zGT_mem 1950 (by decide +kernel) (by decide +kernel)
theorem zk18m4 : zcal zm258 2 := ⟨zGT_mem 1951 (by decide +kernel) (by decide +kernel), zGT_mem 154 (by decide +kernel) (by decide +kernel), by decide +kernel⟩
set_option maxHeartbeats 4000000 in
theorem zl_c18 (F : zlF p s m meth c b L xs Gd cy adK adV) (hRB : zRBr Rel) (ho : zo18 Rel) (hL : L ≤ 3584) {n : Nat} (hn : 7 * n + 7 ≤ L) (K : zHd p l e s m below meth c b Gd cy Rel (n + 1) (7 * n) 1274) : zHd p l e s m below meth c b Gd cy Rel n (7 * n) 724 := by
  intro hx hm adx adm H locs ls R wx wm Px Pm Dx Dm dis S hl
  obtain ⟨r, hx', hm', ex, em, R'⟩ := ho n hx hm R (xs (7 * n + 1)) (xs (7 * n + 2))
  have bx := (zsnd l _ _ _ _ _ _ _ ex).1
  have bm := (zsnd l _ _ _ _ _ _ _ em).1
  dsimp only at bx bm
  obtain ⟨-, ⟨nx, rx, x0⟩, ⟨nm, rm, m0⟩, -⟩ := hRB _ _ _ R
  obtain ⟨hB1, hB2⟩ := (hRB _ _ _ R').1 (by omega)
  refine lv_aload_n F.1 F.2.1 zd_724 rfl (lv_at hl 1 rfl) ?_
  refine zl_argA F hl zd_725 zd_726 ?_
  refine lv_iconst (v := 1) F.1 F.2.1 zd_727 (by decide) ?_
  refine zl_argB (k := 1) F rfl S (by omega) hL zd_728 zd_729 ?_
  refine zl_argA F hl zd_730 zd_731 ?_
  refine lv_iconst (v := 2) F.1 F.2.1 zd_732 (by decide) ?_
  refine zl_argB (k := 2) F rfl S (by omega) hL zd_733 zd_734 ?_
  refine zl_callV F.1 F.2.1 F.2.2.2.1 F.2.2.2.2.1 F.2.2.2.2.2.1 F.2.2.2.2.2.2.2.2.2 135 10 2 (as := [.int (xs (7 * n + 1)), .int (xs (7 * n + 2))]) (rest := []) (h := hx) (h2 := hm) (h' := hx') (ad := adx) (ad2 := adm) ex (by decide) (by decide +kernel) (Nat.le_of_ble_eq_true rfl) (fun v hv => by simp only [List.mem_cons, List.not_mem_nil, or_false] at hv; rcases hv with rfl | rfl <;> exact ⟨_, rfl⟩) x0 (by decide) (r := (RX11, TX11, 17)) rfl wx rfl zk18x1 zk18x2 zk18x3 zk18x4 (by decide) hl.1 (Nat.le_of_ble_eq_true rfl) zd_735 Px Pm Dx dis S ⟨by have zr := zroom; show _ ≤ room_1.cells; omega, by have zr := zroom; show _ ≤ room_1.slots; omega⟩ ?_
  intro _ _ adx' H1 locs1 ea Px1 Pm1 Dx1 dis1 wx1 S
  refine lv_aload_n F.1 F.2.1 zd_738 rfl (lv_at hl 2 rfl) ?_
  refine zl_argA F hl zd_739 zd_740 ?_
  refine lv_iconst (v := 1) F.1 F.2.1 zd_741 (by decide) ?_
  refine zl_argB (k := 1) F rfl S (by omega) hL zd_742 zd_743 ?_
  refine zl_argA F hl zd_744 zd_745 ?_
  refine lv_iconst (v := 2) F.1 F.2.1 zd_746 (by decide) ?_
  refine zl_argB (k := 2) F rfl S (by omega) hL zd_747 zd_748 ?_
  refine zl_callV F.1 F.2.1 F.2.2.2.1 F.2.2.2.2.1 F.2.2.2.2.2.1 F.2.2.2.2.2.2.2.2.2 258 11 2 (as := [.int (xs (7 * n + 1)), .int (xs (7 * n + 2))]) (rest := [.int r]) (h := hm) (h2 := hx') (h' := hm') (ad := adm) (ad2 := adx') em (by decide) (by decide +kernel) (Nat.le_of_ble_eq_true rfl) (fun v hv => by simp only [List.mem_cons, List.not_mem_nil, or_false] at hv; rcases hv with rfl | rfl <;> exact ⟨_, rfl⟩) m0 (by decide) (r := (RX12, TX12, 39)) rfl wm rfl zk18m1 zk18m2 zk18m3 zk18m4 (by decide) hl.1 (Nat.le_of_ble_eq_true rfl) zd_749 Pm1 Px1 Dm dis1.sym S ⟨by have zr := zroom; show _ ≤ room_1.cells; omega, by have zr := zroom; show _ ≤ room_1.slots; omega⟩ ?_
  intro _ _ adm' H2 locs2 eb Pm2 Px2 Dm2 dis2 wm2 S
  refine lv_icmp_eq (tgt := 1274) F.1 F.2.1 zd_752 (by decide) (fun _ => ?_) (fun q => absurd rfl q)
  refine zW_eq (K hx' hm' adx' adm' H2 locs2 ls R' wx1 wm2 Px2 Pm2 Dx1 Dm2 dis2.sym S ?_) (by omega) (by omega)
  rw [ea 0 (List.getElem?_eq_some_iff.mp x0).1, eb 0 (List.getElem?_eq_some_iff.mp m0).1]
  exact hl
/-- hole -/
theorem zk19x1 : Cond.methodLink R_law 95 zm136.1 ∈ zGT := zGT_mem 1129 (by decide +kernel) (by decide +kernel)
theorem zk19x2 : Cond.instanceMethod zm136.1 ∈ zGT := zGT_mem 1130 (by decide +kernel) (by decide +kernel)
theorem zk19x3 : Cond.selects "BookBarge" zm136.1 zm136.1 ∈ zGT := zGT_mem 1131 (by decide +kernel) (by decide +kernel)
theorem zk19x4 : zcal zm136 2 := ⟨zGT_mem 1132 (by decide +kernel) (by decide +kernel), zGT_mem 143 (by decide +kernel) (by decide +kernel), by decide +kernel⟩
theorem zk19m1 : Cond.methodLink R_law 98 zm235.1 ∈ zGT := zGT_mem 1834 (by decide +kernel) (by decide +kernel)
theorem zk19m2 : Cond.instanceMethod zm235.1 ∈ zGT := zGT_mem 1835 (by decide +kernel) (by decide +kernel)
theorem zk19m3 : Cond.selects "BookBargeModel" zm235.1 zm235.1 ∈ zGT := zGT_mem 1836 (by decide +kernel) (by decide +kernel)
theorem zk19m4 : zcal zm235 2 := ⟨zGT_mem 1837 (by decide +kernel) (by decide +kernel), zGT_mem 154 (by decide +kernel) (by decide +kernel), by decide +kernel⟩
set_option maxHeartbeats 4000000 in
theorem zl_c19 (F : zlF p s m meth c b L xs Gd cy adK adV) (hRB : zRBr Rel) (ho : zo19 Rel) (hL : L ≤ 3584) {n : Nat} (hn : 7 * n + 7 ≤ L) (K : zHd p l e s m below meth c b Gd cy Rel (n + 1) (7 * n) 1274) : zHd p l e s m below meth c b Gd cy Rel n (7 * n) 757 := by
  intro hx hm adx adm H locs ls R wx wm Px Pm Dx Dm dis S hl
  obtain ⟨r, hx', hm', ex, em, R'⟩ := ho n hx hm R (xs (7 * n + 1)) (xs (7 * n + 2))
  have bx := (zsnd l _ _ _ _ _ _ _ ex).1
  have bm := (zsnd l _ _ _ _ _ _ _ em).1
  dsimp only at bx bm
  obtain ⟨-, ⟨nx, rx, x0⟩, ⟨nm, rm, m0⟩, -⟩ := hRB _ _ _ R
  obtain ⟨hB1, hB2⟩ := (hRB _ _ _ R').1 (by omega)
  refine lv_aload_n F.1 F.2.1 zd_757 rfl (lv_at hl 1 rfl) ?_
  refine zl_argA F hl zd_758 zd_759 ?_
  refine lv_iconst (v := 1) F.1 F.2.1 zd_760 (by decide) ?_
  refine zl_argB (k := 1) F rfl S (by omega) hL zd_761 zd_762 ?_
  refine zl_argA F hl zd_763 zd_764 ?_
  refine lv_iconst (v := 2) F.1 F.2.1 zd_765 (by decide) ?_
  refine zl_argB (k := 2) F rfl S (by omega) hL zd_766 zd_767 ?_
  refine zl_callV F.1 F.2.1 F.2.2.2.1 F.2.2.2.2.1 F.2.2.2.2.2.1 F.2.2.2.2.2.2.2.2.2 136 10 2 (as := [.int (xs (7 * n + 1)), .int (xs (7 * n + 2))]) (rest := []) (h := hx) (h2 := hm) (h' := hx') (ad := adx) (ad2 := adm) ex (by decide) (by decide +kernel) (Nat.le_of_ble_eq_true rfl) (fun v hv => by simp only [List.mem_cons, List.not_mem_nil, or_false] at hv; rcases hv with rfl | rfl <;> exact ⟨_, rfl⟩) x0 (by decide) (r := (RX11, TX11, 17)) rfl wx rfl zk19x1 zk19x2 zk19x3 zk19x4 (by decide) hl.1 (Nat.le_of_ble_eq_true rfl) zd_768 Px Pm Dx dis S ⟨by have zr := zroom; show _ ≤ room_1.cells; omega, by have zr := zroom; show _ ≤ room_1.slots; omega⟩ ?_
  intro _ _ adx' H1 locs1 ea Px1 Pm1 Dx1 dis1 wx1 S
  refine lv_aload_n F.1 F.2.1 zd_771 rfl (lv_at hl 2 rfl) ?_
  refine zl_argA F hl zd_772 zd_773 ?_
  refine lv_iconst (v := 1) F.1 F.2.1 zd_774 (by decide) ?_
  refine zl_argB (k := 1) F rfl S (by omega) hL zd_775 zd_776 ?_
  refine zl_argA F hl zd_777 zd_778 ?_
  refine lv_iconst (v := 2) F.1 F.2.1 zd_779 (by decide) ?_
  refine zl_argB (k := 2) F rfl S (by omega) hL zd_780 zd_781 ?_
  refine zl_callV F.1 F.2.1 F.2.2.2.1 F.2.2.2.2.1 F.2.2.2.2.2.1 F.2.2.2.2.2.2.2.2.2 235 11 2 (as := [.int (xs (7 * n + 1)), .int (xs (7 * n + 2))]) (rest := [.int r]) (h := hm) (h2 := hx') (h' := hm') (ad := adm) (ad2 := adx') em (by decide) (by decide +kernel) (Nat.le_of_ble_eq_true rfl) (fun v hv => by simp only [List.mem_cons, List.not_mem_nil, or_false] at hv; rcases hv with rfl | rfl <;> exact ⟨_, rfl⟩) m0 (by decide) (r := (RX12, TX12, 39)) rfl wm rfl zk19m1 zk19m2 zk19m3 zk19m4 (by decide) hl.1 (Nat.le_of_ble_eq_true rfl) zd_782 Pm1 Px1 Dm dis1.sym S ⟨by have zr := zroom; show _ ≤ room_1.cells; omega, by have zr := zroom; show _ ≤ room_1.slots; omega⟩ ?_
  intro _ _ adm' H2 locs2 eb Pm2 Px2 Dm2 dis2 wm2 S
  refine lv_icmp_eq (tgt := 1274) F.1 F.2.1 zd_785 (by decide) (fun _ => ?_) (fun q => absurd rfl q)
  refine zW_eq (K hx' hm' adx' adm' H2 locs2 ls R' wx1 wm2 Px2 Pm2 Dx1 Dm2 dis2.sym S ?_) (by omega) (by omega)
  rw [ea 0 (List.getElem?_eq_some_iff.mp x0).1, eb 0 (List.getElem?_eq_some_iff.mp m0).1]
  exact hl
/-- undo -/
theorem zk20x1 : Cond.methodLink R_law 99 zm137.1 ∈ zGT := zGT_mem 1134 (by decide +kernel) (by decide +kernel)
theorem zk20x2 : Cond.instanceMethod zm137.1 ∈ zGT := zGT_mem 1135 (by decide +kernel) (by decide +kernel)
theorem zk20x3 : Cond.selects "BookBarge" zm137.1 zm137.1 ∈ zGT := zGT_mem 1136 (by decide +kernel) (by decide +kernel)
theorem zk20x4 : zcal zm137 0 := ⟨zGT_mem 1137 (by decide +kernel) (by decide +kernel), zGT_mem 143 (by decide +kernel) (by decide +kernel), by decide +kernel⟩
theorem zk20m1 : Cond.methodLink R_law 102 zm238.1 ∈ zGT := zGT_mem 1860 (by decide +kernel) (by decide +kernel)
theorem zk20m2 : Cond.instanceMethod zm238.1 ∈ zGT := zGT_mem 1861 (by decide +kernel) (by decide +kernel)
theorem zk20m3 : Cond.selects "BookBargeModel" zm238.1 zm238.1 ∈ zGT := zGT_mem 1862 (by decide +kernel) (by decide +kernel)
theorem zk20m4 : zcal zm238 0 := ⟨zGT_mem 1863 (by decide +kernel) (by decide +kernel), zGT_mem 154 (by decide +kernel) (by decide +kernel), by decide +kernel⟩
set_option maxHeartbeats 4000000 in
theorem zl_c20 (F : zlF p s m meth c b L xs Gd cy adK adV) (hRB : zRBr Rel) (ho : zo20 Rel) (hL : L ≤ 3584) {n : Nat} (hn : 7 * n + 7 ≤ L) (K : zHd p l e s m below meth c b Gd cy Rel (n + 1) (7 * n) 1274) : zHd p l e s m below meth c b Gd cy Rel n (7 * n) 790 := by
  intro hx hm adx adm H locs ls R wx wm Px Pm Dx Dm dis S hl
  obtain ⟨r, hx', hm', ex, em, R'⟩ := ho n hx hm R
  have bx := (zsnd l _ _ _ _ _ _ _ ex).1
  have bm := (zsnd l _ _ _ _ _ _ _ em).1
  dsimp only at bx bm
  obtain ⟨-, ⟨nx, rx, x0⟩, ⟨nm, rm, m0⟩, -⟩ := hRB _ _ _ R
  obtain ⟨hB1, hB2⟩ := (hRB _ _ _ R').1 (by omega)
  refine lv_aload_n F.1 F.2.1 zd_790 rfl (lv_at hl 1 rfl) ?_
  refine zl_callV F.1 F.2.1 F.2.2.2.1 F.2.2.2.2.1 F.2.2.2.2.2.1 F.2.2.2.2.2.2.2.2.2 137 10 0 (as := []) (rest := []) (h := hx) (h2 := hm) (h' := hx') (ad := adx) (ad2 := adm) ex (by decide) (by decide +kernel) (Nat.le_of_ble_eq_true rfl) (fun v hv => absurd hv List.not_mem_nil) x0 (by decide) (r := (RX11, TX11, 17)) rfl wx rfl zk20x1 zk20x2 zk20x3 zk20x4 (by decide) hl.1 (Nat.le_of_ble_eq_true rfl) zd_791 Px Pm Dx dis S ⟨by have zr := zroom; show _ ≤ room_1.cells; omega, by have zr := zroom; show _ ≤ room_1.slots; omega⟩ ?_
  intro _ _ adx' H1 locs1 ea Px1 Pm1 Dx1 dis1 wx1 S
  refine lv_aload_n F.1 F.2.1 zd_794 rfl (lv_at hl 2 rfl) ?_
  refine zl_callV F.1 F.2.1 F.2.2.2.1 F.2.2.2.2.1 F.2.2.2.2.2.1 F.2.2.2.2.2.2.2.2.2 238 11 0 (as := []) (rest := [.int r]) (h := hm) (h2 := hx') (h' := hm') (ad := adm) (ad2 := adx') em (by decide) (by decide +kernel) (Nat.le_of_ble_eq_true rfl) (fun v hv => absurd hv List.not_mem_nil) m0 (by decide) (r := (RX12, TX12, 39)) rfl wm rfl zk20m1 zk20m2 zk20m3 zk20m4 (by decide) hl.1 (Nat.le_of_ble_eq_true rfl) zd_795 Pm1 Px1 Dm dis1.sym S ⟨by have zr := zroom; show _ ≤ room_1.cells; omega, by have zr := zroom; show _ ≤ room_1.slots; omega⟩ ?_
  intro _ _ adm' H2 locs2 eb Pm2 Px2 Dm2 dis2 wm2 S
  refine lv_icmp_eq (tgt := 1274) F.1 F.2.1 zd_798 (by decide) (fun _ => ?_) (fun q => absurd rfl q)
  refine zW_eq (K hx' hm' adx' adm' H2 locs2 ls R' wx1 wm2 Px2 Pm2 Dx1 Dm2 dis2.sym S ?_) (by omega) (by omega)
  rw [ea 0 (List.getElem?_eq_some_iff.mp x0).1, eb 0 (List.getElem?_eq_some_iff.mp m0).1]
  exact hl
/-- run -/
theorem zk21x1 : Cond.methodLink R_law 103 zm141.1 ∈ zGT := zGT_mem 1138 (by decide +kernel) (by decide +kernel)
theorem zk21x2 : Cond.instanceMethod zm141.1 ∈ zGT := zGT_mem 1139 (by decide +kernel) (by decide +kernel)
theorem zk21x3 : Cond.selects "BookBarge" zm141.1 zm141.1 ∈ zGT := zGT_mem 1140 (by decide +kernel) (by decide +kernel)
theorem zk21x4 : zcal zm141 3 := ⟨zGT_mem 1141 (by decide +kernel) (by decide +kernel), zGT_mem 143 (by decide +kernel) (by decide +kernel), by decide +kernel⟩
theorem zk21m1 : Cond.methodLink R_law 106 zm266.1 ∈ zGT := zGT_mem 1956 (by decide +kernel) (by decide +kernel)
theorem zk21m2 : Cond.instanceMethod zm266.1 ∈ zGT := zGT_mem 1957 (by decide +kernel) (by decide +kernel)
theorem zk21m3 : Cond.selects "BookBargeModel" zm266.1 zm266.1 ∈ zGT := zGT_mem 1958 (by decide +kernel) (by decide +kernel)
theorem zk21m4 : zcal zm266 3 := ⟨zGT_mem 1959 (by decide +kernel) (by decide +kernel), zGT_mem 154 (by decide +kernel) (by decide +kernel), by decide +kernel⟩
set_option maxHeartbeats 4000000 in
theorem zl_c21 (F : zlF p s m meth c b L xs Gd cy adK adV) (hRB : zRBr Rel) (ho : zo21 Rel) (hL : L ≤ 3584) {n : Nat} (hn : 7 * n + 7 ≤ L) (K : zHd p l e s m below meth c b Gd cy Rel (n + 1) (7 * n) 1274) : zHd p l e s m below meth c b Gd cy Rel n (7 * n) 803 := by
  intro hx hm adx adm H locs ls R wx wm Px Pm Dx Dm dis S hl
  obtain ⟨r, hx', hm', ex, em, R'⟩ := ho n hx hm R (xs (7 * n + 1)) (xs (7 * n + 2)) (xs (7 * n + 3))
  have bx := (zsnd l _ _ _ _ _ _ _ ex).1
  have bm := (zsnd l _ _ _ _ _ _ _ em).1
  dsimp only at bx bm
  obtain ⟨-, ⟨nx, rx, x0⟩, ⟨nm, rm, m0⟩, -⟩ := hRB _ _ _ R
  obtain ⟨hB1, hB2⟩ := (hRB _ _ _ R').1 (by omega)
  refine lv_aload_n F.1 F.2.1 zd_803 rfl (lv_at hl 1 rfl) ?_
  refine zl_argA F hl zd_804 zd_805 ?_
  refine lv_iconst (v := 1) F.1 F.2.1 zd_806 (by decide) ?_
  refine zl_argB (k := 1) F rfl S (by omega) hL zd_807 zd_808 ?_
  refine zl_argA F hl zd_809 zd_810 ?_
  refine lv_iconst (v := 2) F.1 F.2.1 zd_811 (by decide) ?_
  refine zl_argB (k := 2) F rfl S (by omega) hL zd_812 zd_813 ?_
  refine zl_argA F hl zd_814 zd_815 ?_
  refine lv_iconst (v := 3) F.1 F.2.1 zd_816 (by decide) ?_
  refine zl_argB (k := 3) F rfl S (by omega) hL zd_817 zd_818 ?_
  refine zl_callV F.1 F.2.1 F.2.2.2.1 F.2.2.2.2.1 F.2.2.2.2.2.1 F.2.2.2.2.2.2.2.2.2 141 10 3 (as := [.int (xs (7 * n + 1)), .int (xs (7 * n + 2)), .int (xs (7 * n + 3))]) (rest := []) (h := hx) (h2 := hm) (h' := hx') (ad := adx) (ad2 := adm) ex (by decide) (by decide +kernel) (Nat.le_of_ble_eq_true rfl) (fun v hv => by simp only [List.mem_cons, List.not_mem_nil, or_false] at hv; rcases hv with rfl | rfl | rfl <;> exact ⟨_, rfl⟩) x0 (by decide) (r := (RX11, TX11, 17)) rfl wx rfl zk21x1 zk21x2 zk21x3 zk21x4 (by decide) hl.1 (Nat.le_of_ble_eq_true rfl) zd_819 Px Pm Dx dis S ⟨by have zr := zroom; show _ ≤ room_1.cells; omega, by have zr := zroom; show _ ≤ room_1.slots; omega⟩ ?_
  intro _ _ adx' H1 locs1 ea Px1 Pm1 Dx1 dis1 wx1 S
  refine lv_aload_n F.1 F.2.1 zd_822 rfl (lv_at hl 2 rfl) ?_
  refine zl_argA F hl zd_823 zd_824 ?_
  refine lv_iconst (v := 1) F.1 F.2.1 zd_825 (by decide) ?_
  refine zl_argB (k := 1) F rfl S (by omega) hL zd_826 zd_827 ?_
  refine zl_argA F hl zd_828 zd_829 ?_
  refine lv_iconst (v := 2) F.1 F.2.1 zd_830 (by decide) ?_
  refine zl_argB (k := 2) F rfl S (by omega) hL zd_831 zd_832 ?_
  refine zl_argA F hl zd_833 zd_834 ?_
  refine lv_iconst (v := 3) F.1 F.2.1 zd_835 (by decide) ?_
  refine zl_argB (k := 3) F rfl S (by omega) hL zd_836 zd_837 ?_
  refine zl_callV F.1 F.2.1 F.2.2.2.1 F.2.2.2.2.1 F.2.2.2.2.2.1 F.2.2.2.2.2.2.2.2.2 266 11 3 (as := [.int (xs (7 * n + 1)), .int (xs (7 * n + 2)), .int (xs (7 * n + 3))]) (rest := [.int r]) (h := hm) (h2 := hx') (h' := hm') (ad := adm) (ad2 := adx') em (by decide) (by decide +kernel) (Nat.le_of_ble_eq_true rfl) (fun v hv => by simp only [List.mem_cons, List.not_mem_nil, or_false] at hv; rcases hv with rfl | rfl | rfl <;> exact ⟨_, rfl⟩) m0 (by decide) (r := (RX12, TX12, 39)) rfl wm rfl zk21m1 zk21m2 zk21m3 zk21m4 (by decide) hl.1 (Nat.le_of_ble_eq_true rfl) zd_838 Pm1 Px1 Dm dis1.sym S ⟨by have zr := zroom; show _ ≤ room_1.cells; omega, by have zr := zroom; show _ ≤ room_1.slots; omega⟩ ?_
  intro _ _ adm' H2 locs2 eb Pm2 Px2 Dm2 dis2 wm2 S
  refine lv_icmp_eq (tgt := 1274) F.1 F.2.1 zd_841 (by decide) (fun _ => ?_) (fun q => absurd rfl q)
  refine zW_eq (K hx' hm' adx' adm' H2 locs2 ls R' wx1 wm2 Px2 Pm2 Dx1 Dm2 dis2.sym S ?_) (by omega) (by omega)
  rw [ea 0 (List.getElem?_eq_some_iff.mp x0).1, eb 0 (List.getElem?_eq_some_iff.mp m0).1]
  exact hl
/-- left -/
theorem zk22x1 : Cond.methodLink R_law 107 zm142.1 ∈ zGT := zGT_mem 1230 (by decide +kernel) (by decide +kernel)
theorem zk22x2 : Cond.instanceMethod zm142.1 ∈ zGT := zGT_mem 1231 (by decide +kernel) (by decide +kernel)
theorem zk22x3 : Cond.selects "BookBarge" zm142.1 zm142.1 ∈ zGT := zGT_mem 1232 (by decide +kernel) (by decide +kernel)
theorem zk22x4 : zcal zm142 3 := ⟨zGT_mem 1233 (by decide +kernel) (by decide +kernel), zGT_mem 143 (by decide +kernel) (by decide +kernel), by decide +kernel⟩
theorem zk22m1 : Cond.methodLink R_law 110 zm269.1 ∈ zGT := zGT_mem 2008 (by decide +kernel) (by decide +kernel)
theorem zk22m2 : Cond.instanceMethod zm269.1 ∈ zGT := zGT_mem 2009 (by decide +kernel) (by decide +kernel)
theorem zk22m3 : Cond.selects "BookBargeModel" zm269.1 zm269.1 ∈ zGT := zGT_mem 2010 (by decide +kernel) (by decide +kernel)
theorem zk22m4 : zcal zm269 3 := ⟨zGT_mem 2011 (by decide +kernel) (by decide +kernel), zGT_mem 154 (by decide +kernel) (by decide +kernel), by decide +kernel⟩
set_option maxHeartbeats 4000000 in
theorem zl_c22 (F : zlF p s m meth c b L xs Gd cy adK adV) (hRB : zRBr Rel) (ho : zo22 Rel) (hL : L ≤ 3584) {n : Nat} (hn : 7 * n + 7 ≤ L) (K : zHd p l e s m below meth c b Gd cy Rel (n + 1) (7 * n) 1274) : zHd p l e s m below meth c b Gd cy Rel n (7 * n) 846 := by
  intro hx hm adx adm H locs ls R wx wm Px Pm Dx Dm dis S hl
  obtain ⟨r, hx', hm', ex, em, R'⟩ := ho n hx hm R (xs (7 * n + 1)) (xs (7 * n + 2)) (xs (7 * n + 3))
  have bx := (zsnd l _ _ _ _ _ _ _ ex).1
  have bm := (zsnd l _ _ _ _ _ _ _ em).1
  dsimp only at bx bm
  obtain ⟨-, ⟨nx, rx, x0⟩, ⟨nm, rm, m0⟩, -⟩ := hRB _ _ _ R
  obtain ⟨hB1, hB2⟩ := (hRB _ _ _ R').1 (by omega)
  refine lv_aload_n F.1 F.2.1 zd_846 rfl (lv_at hl 1 rfl) ?_
  refine zl_argA F hl zd_847 zd_848 ?_
  refine lv_iconst (v := 1) F.1 F.2.1 zd_849 (by decide) ?_
  refine zl_argB (k := 1) F rfl S (by omega) hL zd_850 zd_851 ?_
  refine zl_argA F hl zd_852 zd_853 ?_
  refine lv_iconst (v := 2) F.1 F.2.1 zd_854 (by decide) ?_
  refine zl_argB (k := 2) F rfl S (by omega) hL zd_855 zd_856 ?_
  refine zl_argA F hl zd_857 zd_858 ?_
  refine lv_iconst (v := 3) F.1 F.2.1 zd_859 (by decide) ?_
  refine zl_argB (k := 3) F rfl S (by omega) hL zd_860 zd_861 ?_
  refine zl_callV F.1 F.2.1 F.2.2.2.1 F.2.2.2.2.1 F.2.2.2.2.2.1 F.2.2.2.2.2.2.2.2.2 142 10 3 (as := [.int (xs (7 * n + 1)), .int (xs (7 * n + 2)), .int (xs (7 * n + 3))]) (rest := []) (h := hx) (h2 := hm) (h' := hx') (ad := adx) (ad2 := adm) ex (by decide) (by decide +kernel) (Nat.le_of_ble_eq_true rfl) (fun v hv => by simp only [List.mem_cons, List.not_mem_nil, or_false] at hv; rcases hv with rfl | rfl | rfl <;> exact ⟨_, rfl⟩) x0 (by decide) (r := (RX11, TX11, 17)) rfl wx rfl zk22x1 zk22x2 zk22x3 zk22x4 (by decide) hl.1 (Nat.le_of_ble_eq_true rfl) zd_862 Px Pm Dx dis S ⟨by have zr := zroom; show _ ≤ room_1.cells; omega, by have zr := zroom; show _ ≤ room_1.slots; omega⟩ ?_
  intro _ _ adx' H1 locs1 ea Px1 Pm1 Dx1 dis1 wx1 S
  refine lv_aload_n F.1 F.2.1 zd_865 rfl (lv_at hl 2 rfl) ?_
  refine zl_argA F hl zd_866 zd_867 ?_
  refine lv_iconst (v := 1) F.1 F.2.1 zd_868 (by decide) ?_
  refine zl_argB (k := 1) F rfl S (by omega) hL zd_869 zd_870 ?_
  refine zl_argA F hl zd_871 zd_872 ?_
  refine lv_iconst (v := 2) F.1 F.2.1 zd_873 (by decide) ?_
  refine zl_argB (k := 2) F rfl S (by omega) hL zd_874 zd_875 ?_
  refine zl_argA F hl zd_876 zd_877 ?_
  refine lv_iconst (v := 3) F.1 F.2.1 zd_878 (by decide) ?_
  refine zl_argB (k := 3) F rfl S (by omega) hL zd_879 zd_880 ?_
  refine zl_callV F.1 F.2.1 F.2.2.2.1 F.2.2.2.2.1 F.2.2.2.2.2.1 F.2.2.2.2.2.2.2.2.2 269 11 3 (as := [.int (xs (7 * n + 1)), .int (xs (7 * n + 2)), .int (xs (7 * n + 3))]) (rest := [.int r]) (h := hm) (h2 := hx') (h' := hm') (ad := adm) (ad2 := adx') em (by decide) (by decide +kernel) (Nat.le_of_ble_eq_true rfl) (fun v hv => by simp only [List.mem_cons, List.not_mem_nil, or_false] at hv; rcases hv with rfl | rfl | rfl <;> exact ⟨_, rfl⟩) m0 (by decide) (r := (RX12, TX12, 39)) rfl wm rfl zk22m1 zk22m2 zk22m3 zk22m4 (by decide) hl.1 (Nat.le_of_ble_eq_true rfl) zd_881 Pm1 Px1 Dm dis1.sym S ⟨by have zr := zroom; show _ ≤ room_1.cells; omega, by have zr := zroom; show _ ≤ room_1.slots; omega⟩ ?_
  intro _ _ adm' H2 locs2 eb Pm2 Px2 Dm2 dis2 wm2 S
  refine lv_icmp_eq (tgt := 1274) F.1 F.2.1 zd_884 (by decide) (fun _ => ?_) (fun q => absurd rfl q)
  refine zW_eq (K hx' hm' adx' adm' H2 locs2 ls R' wx1 wm2 Px2 Pm2 Dx1 Dm2 dis2.sym S ?_) (by omega) (by omega)
  rw [ea 0 (List.getElem?_eq_some_iff.mp x0).1, eb 0 (List.getElem?_eq_some_iff.mp m0).1]
  exact hl
/-- lending -/
theorem zk23x1 : Cond.methodLink R_law 111 zm143.1 ∈ zGT := zGT_mem 1259 (by decide +kernel) (by decide +kernel)
theorem zk23x2 : Cond.instanceMethod zm143.1 ∈ zGT := zGT_mem 1260 (by decide +kernel) (by decide +kernel)
theorem zk23x3 : Cond.selects "BookBarge" zm143.1 zm143.1 ∈ zGT := zGT_mem 1261 (by decide +kernel) (by decide +kernel)
theorem zk23x4 : zcal zm143 3 := ⟨zGT_mem 1262 (by decide +kernel) (by decide +kernel), zGT_mem 143 (by decide +kernel) (by decide +kernel), by decide +kernel⟩
theorem zk23m1 : Cond.methodLink R_law 114 zm277.1 ∈ zGT := zGT_mem 2023 (by decide +kernel) (by decide +kernel)
theorem zk23m2 : Cond.instanceMethod zm277.1 ∈ zGT := zGT_mem 2024 (by decide +kernel) (by decide +kernel)
theorem zk23m3 : Cond.selects "BookBargeModel" zm277.1 zm277.1 ∈ zGT := zGT_mem 2025 (by decide +kernel) (by decide +kernel)
theorem zk23m4 : zcal zm277 3 := ⟨zGT_mem 2026 (by decide +kernel) (by decide +kernel), zGT_mem 154 (by decide +kernel) (by decide +kernel), by decide +kernel⟩
set_option maxHeartbeats 4000000 in
theorem zl_c23 (F : zlF p s m meth c b L xs Gd cy adK adV) (hRB : zRBr Rel) (ho : zo23 Rel) (hL : L ≤ 3584) {n : Nat} (hn : 7 * n + 7 ≤ L) (K : zHd p l e s m below meth c b Gd cy Rel (n + 1) (7 * n) 1274) : zHd p l e s m below meth c b Gd cy Rel n (7 * n) 889 := by
  intro hx hm adx adm H locs ls R wx wm Px Pm Dx Dm dis S hl
  obtain ⟨r, hx', hm', ex, em, R'⟩ := ho n hx hm R (xs (7 * n + 1)) (xs (7 * n + 2)) (xs (7 * n + 3))
  have bx := (zsnd l _ _ _ _ _ _ _ ex).1
  have bm := (zsnd l _ _ _ _ _ _ _ em).1
  dsimp only at bx bm
  obtain ⟨-, ⟨nx, rx, x0⟩, ⟨nm, rm, m0⟩, -⟩ := hRB _ _ _ R
  obtain ⟨hB1, hB2⟩ := (hRB _ _ _ R').1 (by omega)
  refine lv_aload_n F.1 F.2.1 zd_889 rfl (lv_at hl 1 rfl) ?_
  refine zl_argA F hl zd_890 zd_891 ?_
  refine lv_iconst (v := 1) F.1 F.2.1 zd_892 (by decide) ?_
  refine zl_argB (k := 1) F rfl S (by omega) hL zd_893 zd_894 ?_
  refine zl_argA F hl zd_895 zd_896 ?_
  refine lv_iconst (v := 2) F.1 F.2.1 zd_897 (by decide) ?_
  refine zl_argB (k := 2) F rfl S (by omega) hL zd_898 zd_899 ?_
  refine zl_argA F hl zd_900 zd_901 ?_
  refine lv_iconst (v := 3) F.1 F.2.1 zd_902 (by decide) ?_
  refine zl_argB (k := 3) F rfl S (by omega) hL zd_903 zd_904 ?_
  refine zl_callV F.1 F.2.1 F.2.2.2.1 F.2.2.2.2.1 F.2.2.2.2.2.1 F.2.2.2.2.2.2.2.2.2 143 10 3 (as := [.int (xs (7 * n + 1)), .int (xs (7 * n + 2)), .int (xs (7 * n + 3))]) (rest := []) (h := hx) (h2 := hm) (h' := hx') (ad := adx) (ad2 := adm) ex (by decide) (by decide +kernel) (Nat.le_of_ble_eq_true rfl) (fun v hv => by simp only [List.mem_cons, List.not_mem_nil, or_false] at hv; rcases hv with rfl | rfl | rfl <;> exact ⟨_, rfl⟩) x0 (by decide) (r := (RX11, TX11, 17)) rfl wx rfl zk23x1 zk23x2 zk23x3 zk23x4 (by decide) hl.1 (Nat.le_of_ble_eq_true rfl) zd_905 Px Pm Dx dis S ⟨by have zr := zroom; show _ ≤ room_1.cells; omega, by have zr := zroom; show _ ≤ room_1.slots; omega⟩ ?_
  intro _ _ adx' H1 locs1 ea Px1 Pm1 Dx1 dis1 wx1 S
  refine lv_aload_n F.1 F.2.1 zd_908 rfl (lv_at hl 2 rfl) ?_
  refine zl_argA F hl zd_909 zd_910 ?_
  refine lv_iconst (v := 1) F.1 F.2.1 zd_911 (by decide) ?_
  refine zl_argB (k := 1) F rfl S (by omega) hL zd_912 zd_913 ?_
  refine zl_argA F hl zd_914 zd_915 ?_
  refine lv_iconst (v := 2) F.1 F.2.1 zd_916 (by decide) ?_
  refine zl_argB (k := 2) F rfl S (by omega) hL zd_917 zd_918 ?_
  refine zl_argA F hl zd_919 zd_920 ?_
  refine lv_iconst (v := 3) F.1 F.2.1 zd_921 (by decide) ?_
  refine zl_argB (k := 3) F rfl S (by omega) hL zd_922 zd_923 ?_
  refine zl_callV F.1 F.2.1 F.2.2.2.1 F.2.2.2.2.1 F.2.2.2.2.2.1 F.2.2.2.2.2.2.2.2.2 277 11 3 (as := [.int (xs (7 * n + 1)), .int (xs (7 * n + 2)), .int (xs (7 * n + 3))]) (rest := [.int r]) (h := hm) (h2 := hx') (h' := hm') (ad := adm) (ad2 := adx') em (by decide) (by decide +kernel) (Nat.le_of_ble_eq_true rfl) (fun v hv => by simp only [List.mem_cons, List.not_mem_nil, or_false] at hv; rcases hv with rfl | rfl | rfl <;> exact ⟨_, rfl⟩) m0 (by decide) (r := (RX12, TX12, 39)) rfl wm rfl zk23m1 zk23m2 zk23m3 zk23m4 (by decide) hl.1 (Nat.le_of_ble_eq_true rfl) zd_924 Pm1 Px1 Dm dis1.sym S ⟨by have zr := zroom; show _ ≤ room_1.cells; omega, by have zr := zroom; show _ ≤ room_1.slots; omega⟩ ?_
  intro _ _ adm' H2 locs2 eb Pm2 Px2 Dm2 dis2 wm2 S
  refine lv_icmp_eq (tgt := 1274) F.1 F.2.1 zd_927 (by decide) (fun _ => ?_) (fun q => absurd rfl q)
  refine zW_eq (K hx' hm' adx' adm' H2 locs2 ls R' wx1 wm2 Px2 Pm2 Dx1 Dm2 dis2.sym S ?_) (by omega) (by omega)
  rw [ea 0 (List.getElem?_eq_some_iff.mp x0).1, eb 0 (List.getElem?_eq_some_iff.mp m0).1]
  exact hl
/-- dear -/
theorem zk24x1 : Cond.methodLink R_law 115 zm144.1 ∈ zGT := zGT_mem 1292 (by decide +kernel) (by decide +kernel)
theorem zk24x2 : Cond.instanceMethod zm144.1 ∈ zGT := zGT_mem 1293 (by decide +kernel) (by decide +kernel)
theorem zk24x3 : Cond.selects "BookBarge" zm144.1 zm144.1 ∈ zGT := zGT_mem 1294 (by decide +kernel) (by decide +kernel)
theorem zk24x4 : zcal zm144 3 := ⟨zGT_mem 1295 (by decide +kernel) (by decide +kernel), zGT_mem 143 (by decide +kernel) (by decide +kernel), by decide +kernel⟩
theorem zk24m1 : Cond.methodLink R_law 118 zm278.1 ∈ zGT := zGT_mem 2056 (by decide +kernel) (by decide +kernel)
theorem zk24m2 : Cond.instanceMethod zm278.1 ∈ zGT := zGT_mem 2057 (by decide +kernel) (by decide +kernel)
theorem zk24m3 : Cond.selects "BookBargeModel" zm278.1 zm278.1 ∈ zGT := zGT_mem 2058 (by decide +kernel) (by decide +kernel)
theorem zk24m4 : zcal zm278 3 := ⟨zGT_mem 2059 (by decide +kernel) (by decide +kernel), zGT_mem 154 (by decide +kernel) (by decide +kernel), by decide +kernel⟩
set_option maxHeartbeats 4000000 in
theorem zl_c24 (F : zlF p s m meth c b L xs Gd cy adK adV) (hRB : zRBr Rel) (ho : zo24 Rel) (hL : L ≤ 3584) {n : Nat} (hn : 7 * n + 7 ≤ L) (K : zHd p l e s m below meth c b Gd cy Rel (n + 1) (7 * n) 1274) : zHd p l e s m below meth c b Gd cy Rel n (7 * n) 932 := by
  intro hx hm adx adm H locs ls R wx wm Px Pm Dx Dm dis S hl
  obtain ⟨r, hx', hm', ex, em, R'⟩ := ho n hx hm R (xs (7 * n + 1)) (xs (7 * n + 2)) (xs (7 * n + 3))
  have bx := (zsnd l _ _ _ _ _ _ _ ex).1
  have bm := (zsnd l _ _ _ _ _ _ _ em).1
  dsimp only at bx bm
  obtain ⟨-, ⟨nx, rx, x0⟩, ⟨nm, rm, m0⟩, -⟩ := hRB _ _ _ R
  obtain ⟨hB1, hB2⟩ := (hRB _ _ _ R').1 (by omega)
  refine lv_aload_n F.1 F.2.1 zd_932 rfl (lv_at hl 1 rfl) ?_
  refine zl_argA F hl zd_933 zd_934 ?_
  refine lv_iconst (v := 1) F.1 F.2.1 zd_935 (by decide) ?_
  refine zl_argB (k := 1) F rfl S (by omega) hL zd_936 zd_937 ?_
  refine zl_argA F hl zd_938 zd_939 ?_
  refine lv_iconst (v := 2) F.1 F.2.1 zd_940 (by decide) ?_
  refine zl_argB (k := 2) F rfl S (by omega) hL zd_941 zd_942 ?_
  refine zl_argA F hl zd_943 zd_944 ?_
  refine lv_iconst (v := 3) F.1 F.2.1 zd_945 (by decide) ?_
  refine zl_argB (k := 3) F rfl S (by omega) hL zd_946 zd_947 ?_
  refine zl_callV F.1 F.2.1 F.2.2.2.1 F.2.2.2.2.1 F.2.2.2.2.2.1 F.2.2.2.2.2.2.2.2.2 144 10 3 (as := [.int (xs (7 * n + 1)), .int (xs (7 * n + 2)), .int (xs (7 * n + 3))]) (rest := []) (h := hx) (h2 := hm) (h' := hx') (ad := adx) (ad2 := adm) ex (by decide) (by decide +kernel) (Nat.le_of_ble_eq_true rfl) (fun v hv => by simp only [List.mem_cons, List.not_mem_nil, or_false] at hv; rcases hv with rfl | rfl | rfl <;> exact ⟨_, rfl⟩) x0 (by decide) (r := (RX11, TX11, 17)) rfl wx rfl zk24x1 zk24x2 zk24x3 zk24x4 (by decide) hl.1 (Nat.le_of_ble_eq_true rfl) zd_948 Px Pm Dx dis S ⟨by have zr := zroom; show _ ≤ room_1.cells; omega, by have zr := zroom; show _ ≤ room_1.slots; omega⟩ ?_
  intro _ _ adx' H1 locs1 ea Px1 Pm1 Dx1 dis1 wx1 S
  refine lv_aload_n F.1 F.2.1 zd_951 rfl (lv_at hl 2 rfl) ?_
  refine zl_argA F hl zd_952 zd_953 ?_
  refine lv_iconst (v := 1) F.1 F.2.1 zd_954 (by decide) ?_
  refine zl_argB (k := 1) F rfl S (by omega) hL zd_955 zd_956 ?_
  refine zl_argA F hl zd_957 zd_958 ?_
  refine lv_iconst (v := 2) F.1 F.2.1 zd_959 (by decide) ?_
  refine zl_argB (k := 2) F rfl S (by omega) hL zd_960 zd_961 ?_
  refine zl_argA F hl zd_962 zd_963 ?_
  refine lv_iconst (v := 3) F.1 F.2.1 zd_964 (by decide) ?_
  refine zl_argB (k := 3) F rfl S (by omega) hL zd_965 zd_966 ?_
  refine zl_callV F.1 F.2.1 F.2.2.2.1 F.2.2.2.2.1 F.2.2.2.2.2.1 F.2.2.2.2.2.2.2.2.2 278 11 3 (as := [.int (xs (7 * n + 1)), .int (xs (7 * n + 2)), .int (xs (7 * n + 3))]) (rest := [.int r]) (h := hm) (h2 := hx') (h' := hm') (ad := adm) (ad2 := adx') em (by decide) (by decide +kernel) (Nat.le_of_ble_eq_true rfl) (fun v hv => by simp only [List.mem_cons, List.not_mem_nil, or_false] at hv; rcases hv with rfl | rfl | rfl <;> exact ⟨_, rfl⟩) m0 (by decide) (r := (RX12, TX12, 39)) rfl wm rfl zk24m1 zk24m2 zk24m3 zk24m4 (by decide) hl.1 (Nat.le_of_ble_eq_true rfl) zd_967 Pm1 Px1 Dm dis1.sym S ⟨by have zr := zroom; show _ ≤ room_1.cells; omega, by have zr := zroom; show _ ≤ room_1.slots; omega⟩ ?_
  intro _ _ adm' H2 locs2 eb Pm2 Px2 Dm2 dis2 wm2 S
  refine lv_icmp_eq (tgt := 1274) F.1 F.2.1 zd_970 (by decide) (fun _ => ?_) (fun q => absurd rfl q)
  refine zW_eq (K hx' hm' adx' adm' H2 locs2 ls R' wx1 wm2 Px2 Pm2 Dx1 Dm2 dis2.sym S ?_) (by omega) (by omega)
  rw [ea 0 (List.getElem?_eq_some_iff.mp x0).1, eb 0 (List.getElem?_eq_some_iff.mp m0).1]
  exact hl
/-- room -/
theorem zk25x1 : Cond.methodLink R_law 119 zm145.1 ∈ zGT := zGT_mem 1296 (by decide +kernel) (by decide +kernel)
theorem zk25x2 : Cond.instanceMethod zm145.1 ∈ zGT := zGT_mem 1297 (by decide +kernel) (by decide +kernel)
theorem zk25x3 : Cond.selects "BookBarge" zm145.1 zm145.1 ∈ zGT := zGT_mem 1298 (by decide +kernel) (by decide +kernel)
theorem zk25x4 : zcal zm145 2 := ⟨zGT_mem 1299 (by decide +kernel) (by decide +kernel), zGT_mem 143 (by decide +kernel) (by decide +kernel), by decide +kernel⟩
theorem zk25m1 : Cond.methodLink R_law 122 zm279.1 ∈ zGT := zGT_mem 2060 (by decide +kernel) (by decide +kernel)
theorem zk25m2 : Cond.instanceMethod zm279.1 ∈ zGT := zGT_mem 2061 (by decide +kernel) (by decide +kernel)
theorem zk25m3 : Cond.selects "BookBargeModel" zm279.1 zm279.1 ∈ zGT := zGT_mem 2062 (by decide +kernel) (by decide +kernel)
theorem zk25m4 : zcal zm279 2 := ⟨zGT_mem 2063 (by decide +kernel) (by decide +kernel), zGT_mem 154 (by decide +kernel) (by decide +kernel), by decide +kernel⟩
set_option maxHeartbeats 4000000 in
theorem zl_c25 (F : zlF p s m meth c b L xs Gd cy adK adV) (hRB : zRBr Rel) (ho : zo25 Rel) (hL : L ≤ 3584) {n : Nat} (hn : 7 * n + 7 ≤ L) (K : zHd p l e s m below meth c b Gd cy Rel (n + 1) (7 * n) 1274) : zHd p l e s m below meth c b Gd cy Rel n (7 * n) 975 := by
  intro hx hm adx adm H locs ls R wx wm Px Pm Dx Dm dis S hl
  obtain ⟨r, hx', hm', ex, em, R'⟩ := ho n hx hm R (xs (7 * n + 1)) (xs (7 * n + 2))
  have bx := (zsnd l _ _ _ _ _ _ _ ex).1
  have bm := (zsnd l _ _ _ _ _ _ _ em).1
  dsimp only at bx bm
  obtain ⟨-, ⟨nx, rx, x0⟩, ⟨nm, rm, m0⟩, -⟩ := hRB _ _ _ R
  obtain ⟨hB1, hB2⟩ := (hRB _ _ _ R').1 (by omega)
  refine lv_aload_n F.1 F.2.1 zd_975 rfl (lv_at hl 1 rfl) ?_
  refine zl_argA F hl zd_976 zd_977 ?_
  refine lv_iconst (v := 1) F.1 F.2.1 zd_978 (by decide) ?_
  refine zl_argB (k := 1) F rfl S (by omega) hL zd_979 zd_980 ?_
  refine zl_argA F hl zd_981 zd_982 ?_
  refine lv_iconst (v := 2) F.1 F.2.1 zd_983 (by decide) ?_
  refine zl_argB (k := 2) F rfl S (by omega) hL zd_984 zd_985 ?_
  refine zl_callV F.1 F.2.1 F.2.2.2.1 F.2.2.2.2.1 F.2.2.2.2.2.1 F.2.2.2.2.2.2.2.2.2 145 10 2 (as := [.int (xs (7 * n + 1)), .int (xs (7 * n + 2))]) (rest := []) (h := hx) (h2 := hm) (h' := hx') (ad := adx) (ad2 := adm) ex (by decide) (by decide +kernel) (Nat.le_of_ble_eq_true rfl) (fun v hv => by simp only [List.mem_cons, List.not_mem_nil, or_false] at hv; rcases hv with rfl | rfl <;> exact ⟨_, rfl⟩) x0 (by decide) (r := (RX11, TX11, 17)) rfl wx rfl zk25x1 zk25x2 zk25x3 zk25x4 (by decide) hl.1 (Nat.le_of_ble_eq_true rfl) zd_986 Px Pm Dx dis S ⟨by have zr := zroom; show _ ≤ room_1.cells; omega, by have zr := zroom; show _ ≤ room_1.slots; omega⟩ ?_
  intro _ _ adx' H1 locs1 ea Px1 Pm1 Dx1 dis1 wx1 S
  refine lv_aload_n F.1 F.2.1 zd_989 rfl (lv_at hl 2 rfl) ?_
  refine zl_argA F hl zd_990 zd_991 ?_
  refine lv_iconst (v := 1) F.1 F.2.1 zd_992 (by decide) ?_
  refine zl_argB (k := 1) F rfl S (by omega) hL zd_993 zd_994 ?_
  refine zl_argA F hl zd_995 zd_996 ?_
  refine lv_iconst (v := 2) F.1 F.2.1 zd_997 (by decide) ?_
  refine zl_argB (k := 2) F rfl S (by omega) hL zd_998 zd_999 ?_
  refine zl_callV F.1 F.2.1 F.2.2.2.1 F.2.2.2.2.1 F.2.2.2.2.2.1 F.2.2.2.2.2.2.2.2.2 279 11 2 (as := [.int (xs (7 * n + 1)), .int (xs (7 * n + 2))]) (rest := [.int r]) (h := hm) (h2 := hx') (h' := hm') (ad := adm) (ad2 := adx') em (by decide) (by decide +kernel) (Nat.le_of_ble_eq_true rfl) (fun v hv => by simp only [List.mem_cons, List.not_mem_nil, or_false] at hv; rcases hv with rfl | rfl <;> exact ⟨_, rfl⟩) m0 (by decide) (r := (RX12, TX12, 39)) rfl wm rfl zk25m1 zk25m2 zk25m3 zk25m4 (by decide) hl.1 (Nat.le_of_ble_eq_true rfl) zd_1000 Pm1 Px1 Dm dis1.sym S ⟨by have zr := zroom; show _ ≤ room_1.cells; omega, by have zr := zroom; show _ ≤ room_1.slots; omega⟩ ?_
  intro _ _ adm' H2 locs2 eb Pm2 Px2 Dm2 dis2 wm2 S
  refine lv_icmp_eq (tgt := 1274) F.1 F.2.1 zd_1003 (by decide) (fun _ => ?_) (fun q => absurd rfl q)
  refine zW_eq (K hx' hm' adx' adm' H2 locs2 ls R' wx1 wm2 Px2 Pm2 Dx1 Dm2 dis2.sym S ?_) (by omega) (by omega)
  rw [ea 0 (List.getElem?_eq_some_iff.mp x0).1, eb 0 (List.getElem?_eq_some_iff.mp m0).1]
  exact hl
/-- meeting -/
theorem zk26x1 : Cond.methodLink R_law 123 zm146.1 ∈ zGT := zGT_mem 1305 (by decide +kernel) (by decide +kernel)
theorem zk26x2 : Cond.instanceMethod zm146.1 ∈ zGT := zGT_mem 1306 (by decide +kernel) (by decide +kernel)
theorem zk26x3 : Cond.selects "BookBarge" zm146.1 zm146.1 ∈ zGT := zGT_mem 1307 (by decide +kernel) (by decide +kernel)
theorem zk26x4 : zcal zm146 0 := ⟨zGT_mem 1308 (by decide +kernel) (by decide +kernel), zGT_mem 143 (by decide +kernel) (by decide +kernel), by decide +kernel⟩
theorem zk26m1 : Cond.methodLink R_law 126 zm280.1 ∈ zGT := zGT_mem 2064 (by decide +kernel) (by decide +kernel)
theorem zk26m2 : Cond.instanceMethod zm280.1 ∈ zGT := zGT_mem 2065 (by decide +kernel) (by decide +kernel)
theorem zk26m3 : Cond.selects "BookBargeModel" zm280.1 zm280.1 ∈ zGT := zGT_mem 2066 (by decide +kernel) (by decide +kernel)
theorem zk26m4 : zcal zm280 0 := ⟨zGT_mem 2067 (by decide +kernel) (by decide +kernel), zGT_mem 154 (by decide +kernel) (by decide +kernel), by decide +kernel⟩
set_option maxHeartbeats 4000000 in
theorem zl_c26 (F : zlF p s m meth c b L xs Gd cy adK adV) (hRB : zRBr Rel) (ho : zo26 Rel) (hL : L ≤ 3584) {n : Nat} (hn : 7 * n + 7 ≤ L) (K : zHd p l e s m below meth c b Gd cy Rel (n + 1) (7 * n) 1274) : zHd p l e s m below meth c b Gd cy Rel n (7 * n) 1008 := by
  intro hx hm adx adm H locs ls R wx wm Px Pm Dx Dm dis S hl
  obtain ⟨r, hx', hm', ex, em, R'⟩ := ho n hx hm R
  have bx := (zsnd l _ _ _ _ _ _ _ ex).1
  have bm := (zsnd l _ _ _ _ _ _ _ em).1
  dsimp only at bx bm
  obtain ⟨-, ⟨nx, rx, x0⟩, ⟨nm, rm, m0⟩, -⟩ := hRB _ _ _ R
  obtain ⟨hB1, hB2⟩ := (hRB _ _ _ R').1 (by omega)
  refine lv_aload_n F.1 F.2.1 zd_1008 rfl (lv_at hl 1 rfl) ?_
  refine zl_callV F.1 F.2.1 F.2.2.2.1 F.2.2.2.2.1 F.2.2.2.2.2.1 F.2.2.2.2.2.2.2.2.2 146 10 0 (as := []) (rest := []) (h := hx) (h2 := hm) (h' := hx') (ad := adx) (ad2 := adm) ex (by decide) (by decide +kernel) (Nat.le_of_ble_eq_true rfl) (fun v hv => absurd hv List.not_mem_nil) x0 (by decide) (r := (RX11, TX11, 17)) rfl wx rfl zk26x1 zk26x2 zk26x3 zk26x4 (by decide) hl.1 (Nat.le_of_ble_eq_true rfl) zd_1009 Px Pm Dx dis S ⟨by have zr := zroom; show _ ≤ room_1.cells; omega, by have zr := zroom; show _ ≤ room_1.slots; omega⟩ ?_
  intro _ _ adx' H1 locs1 ea Px1 Pm1 Dx1 dis1 wx1 S
  refine lv_aload_n F.1 F.2.1 zd_1012 rfl (lv_at hl 2 rfl) ?_
  refine zl_callV F.1 F.2.1 F.2.2.2.1 F.2.2.2.2.1 F.2.2.2.2.2.1 F.2.2.2.2.2.2.2.2.2 280 11 0 (as := []) (rest := [.int r]) (h := hm) (h2 := hx') (h' := hm') (ad := adm) (ad2 := adx') em (by decide) (by decide +kernel) (Nat.le_of_ble_eq_true rfl) (fun v hv => absurd hv List.not_mem_nil) m0 (by decide) (r := (RX12, TX12, 39)) rfl wm rfl zk26m1 zk26m2 zk26m3 zk26m4 (by decide) hl.1 (Nat.le_of_ble_eq_true rfl) zd_1013 Pm1 Px1 Dm dis1.sym S ⟨by have zr := zroom; show _ ≤ room_1.cells; omega, by have zr := zroom; show _ ≤ room_1.slots; omega⟩ ?_
  intro _ _ adm' H2 locs2 eb Pm2 Px2 Dm2 dis2 wm2 S
  refine lv_icmp_eq (tgt := 1274) F.1 F.2.1 zd_1016 (by decide) (fun _ => ?_) (fun q => absurd rfl q)
  refine zW_eq (K hx' hm' adx' adm' H2 locs2 ls R' wx1 wm2 Px2 Pm2 Dx1 Dm2 dis2.sym S ?_) (by omega) (by omega)
  rw [ea 0 (List.getElem?_eq_some_iff.mp x0).1, eb 0 (List.getElem?_eq_some_iff.mp m0).1]
  exact hl
/-- aboard -/
theorem zk27x1 : Cond.methodLink R_law 127 zm147.1 ∈ zGT := zGT_mem 1328 (by decide +kernel) (by decide +kernel)
theorem zk27x2 : Cond.instanceMethod zm147.1 ∈ zGT := zGT_mem 1329 (by decide +kernel) (by decide +kernel)
theorem zk27x3 : Cond.selects "BookBarge" zm147.1 zm147.1 ∈ zGT := zGT_mem 1330 (by decide +kernel) (by decide +kernel)
theorem zk27x4 : zcal zm147 4 := ⟨zGT_mem 1331 (by decide +kernel) (by decide +kernel), zGT_mem 143 (by decide +kernel) (by decide +kernel), by decide +kernel⟩
theorem zk27m1 : Cond.methodLink R_law 131 zm281.1 ∈ zGT := zGT_mem 2068 (by decide +kernel) (by decide +kernel)
theorem zk27m2 : Cond.instanceMethod zm281.1 ∈ zGT := zGT_mem 2069 (by decide +kernel) (by decide +kernel)
theorem zk27m3 : Cond.selects "BookBargeModel" zm281.1 zm281.1 ∈ zGT := zGT_mem 2070 (by decide +kernel) (by decide +kernel)
theorem zk27m4 : zcal zm281 4 := ⟨zGT_mem 2071 (by decide +kernel) (by decide +kernel), zGT_mem 154 (by decide +kernel) (by decide +kernel), by decide +kernel⟩
set_option maxHeartbeats 4000000 in
theorem zl_c27 (F : zlF p s m meth c b L xs Gd cy adK adV) (hRB : zRBr Rel) (ho : zo27 Rel) (hL : L ≤ 3584) {n : Nat} (hn : 7 * n + 7 ≤ L) (K : zHd p l e s m below meth c b Gd cy Rel (n + 1) (7 * n) 1274) : zHd p l e s m below meth c b Gd cy Rel n (7 * n) 1021 := by
  intro hx hm adx adm H locs ls R wx wm Px Pm Dx Dm dis S hl
  obtain ⟨r, hx', hm', ex, em, R'⟩ := ho n hx hm R (xs (7 * n + 1)) (xs (7 * n + 2)) (xs (7 * n + 3)) (xs (7 * n + 4))
  have bx := (zsnd l _ _ _ _ _ _ _ ex).1
  have bm := (zsnd l _ _ _ _ _ _ _ em).1
  dsimp only at bx bm
  obtain ⟨-, ⟨nx, rx, x0⟩, ⟨nm, rm, m0⟩, -⟩ := hRB _ _ _ R
  obtain ⟨hB1, hB2⟩ := (hRB _ _ _ R').1 (by omega)
  refine lv_aload_n F.1 F.2.1 zd_1021 rfl (lv_at hl 1 rfl) ?_
  refine zl_argA F hl zd_1022 zd_1023 ?_
  refine lv_iconst (v := 1) F.1 F.2.1 zd_1024 (by decide) ?_
  refine zl_argB (k := 1) F rfl S (by omega) hL zd_1025 zd_1026 ?_
  refine zl_argA F hl zd_1027 zd_1028 ?_
  refine lv_iconst (v := 2) F.1 F.2.1 zd_1029 (by decide) ?_
  refine zl_argB (k := 2) F rfl S (by omega) hL zd_1030 zd_1031 ?_
  refine zl_argA F hl zd_1032 zd_1033 ?_
  refine lv_iconst (v := 3) F.1 F.2.1 zd_1034 (by decide) ?_
  refine zl_argB (k := 3) F rfl S (by omega) hL zd_1035 zd_1036 ?_
  refine zl_argA F hl zd_1037 zd_1038 ?_
  refine lv_iconst (v := 4) F.1 F.2.1 zd_1039 (by decide) ?_
  refine zl_argB (k := 4) F rfl S (by omega) hL zd_1040 zd_1041 ?_
  refine zl_callV F.1 F.2.1 F.2.2.2.1 F.2.2.2.2.1 F.2.2.2.2.2.1 F.2.2.2.2.2.2.2.2.2 147 10 4 (as := [.int (xs (7 * n + 1)), .int (xs (7 * n + 2)), .int (xs (7 * n + 3)), .int (xs (7 * n + 4))]) (rest := []) (h := hx) (h2 := hm) (h' := hx') (ad := adx) (ad2 := adm) ex (by decide) (by decide +kernel) (Nat.le_of_ble_eq_true rfl) (fun v hv => by simp only [List.mem_cons, List.not_mem_nil, or_false] at hv; rcases hv with rfl | rfl | rfl | rfl <;> exact ⟨_, rfl⟩) x0 (by decide) (r := (RX11, TX11, 17)) rfl wx rfl zk27x1 zk27x2 zk27x3 zk27x4 (by decide) hl.1 (Nat.le_of_ble_eq_true rfl) zd_1042 Px Pm Dx dis S ⟨by have zr := zroom; show _ ≤ room_1.cells; omega, by have zr := zroom; show _ ≤ room_1.slots; omega⟩ ?_
  intro _ _ adx' H1 locs1 ea Px1 Pm1 Dx1 dis1 wx1 S
  refine lv_aload_n F.1 F.2.1 zd_1045 rfl (lv_at hl 2 rfl) ?_
  refine zl_argA F hl zd_1046 zd_1047 ?_
  refine lv_iconst (v := 1) F.1 F.2.1 zd_1048 (by decide) ?_
  refine zl_argB (k := 1) F rfl S (by omega) hL zd_1049 zd_1050 ?_
  refine zl_argA F hl zd_1051 zd_1052 ?_
  refine lv_iconst (v := 2) F.1 F.2.1 zd_1053 (by decide) ?_
  refine zl_argB (k := 2) F rfl S (by omega) hL zd_1054 zd_1055 ?_
  refine zl_argA F hl zd_1056 zd_1057 ?_
  refine lv_iconst (v := 3) F.1 F.2.1 zd_1058 (by decide) ?_
  refine zl_argB (k := 3) F rfl S (by omega) hL zd_1059 zd_1060 ?_
  refine zl_argA F hl zd_1061 zd_1062 ?_
  refine lv_iconst (v := 4) F.1 F.2.1 zd_1063 (by decide) ?_
  refine zl_argB (k := 4) F rfl S (by omega) hL zd_1064 zd_1065 ?_
  refine zl_callV F.1 F.2.1 F.2.2.2.1 F.2.2.2.2.1 F.2.2.2.2.2.1 F.2.2.2.2.2.2.2.2.2 281 11 4 (as := [.int (xs (7 * n + 1)), .int (xs (7 * n + 2)), .int (xs (7 * n + 3)), .int (xs (7 * n + 4))]) (rest := [.int r]) (h := hm) (h2 := hx') (h' := hm') (ad := adm) (ad2 := adx') em (by decide) (by decide +kernel) (Nat.le_of_ble_eq_true rfl) (fun v hv => by simp only [List.mem_cons, List.not_mem_nil, or_false] at hv; rcases hv with rfl | rfl | rfl | rfl <;> exact ⟨_, rfl⟩) m0 (by decide) (r := (RX12, TX12, 39)) rfl wm rfl zk27m1 zk27m2 zk27m3 zk27m4 (by decide) hl.1 (Nat.le_of_ble_eq_true rfl) zd_1066 Pm1 Px1 Dm dis1.sym S ⟨by have zr := zroom; show _ ≤ room_1.cells; omega, by have zr := zroom; show _ ≤ room_1.slots; omega⟩ ?_
  intro _ _ adm' H2 locs2 eb Pm2 Px2 Dm2 dis2 wm2 S
  refine lv_icmp_eq (tgt := 1274) F.1 F.2.1 zd_1069 (by decide) (fun _ => ?_) (fun q => absurd rfl q)
  refine zW_eq (K hx' hm' adx' adm' H2 locs2 ls R' wx1 wm2 Px2 Pm2 Dx1 Dm2 dis2.sym S ?_) (by omega) (by omega)
  rw [ea 0 (List.getElem?_eq_some_iff.mp x0).1, eb 0 (List.getElem?_eq_some_iff.mp m0).1]
  exact hl
/-- plugs -/
theorem zk28x1 : Cond.methodLink R_law 132 zm148.1 ∈ zGT := zGT_mem 1351 (by decide +kernel) (by decide +kernel)
theorem zk28x2 : Cond.instanceMethod zm148.1 ∈ zGT := zGT_mem 1352 (by decide +kernel) (by decide +kernel)
theorem zk28x3 : Cond.selects "BookBarge" zm148.1 zm148.1 ∈ zGT := zGT_mem 1353 (by decide +kernel) (by decide +kernel)
theorem zk28x4 : zcal zm148 2 := ⟨zGT_mem 1354 (by decide +kernel) (by decide +kernel), zGT_mem 143 (by decide +kernel) (by decide +kernel), by decide +kernel⟩
theorem zk28m1 : Cond.methodLink R_law 135 zm285.1 ∈ zGT := zGT_mem 2073 (by decide +kernel) (by decide +kernel)
theorem zk28m2 : Cond.instanceMethod zm285.1 ∈ zGT := zGT_mem 2074 (by decide +kernel) (by decide +kernel)
theorem zk28m3 : Cond.selects "BookBargeModel" zm285.1 zm285.1 ∈ zGT := zGT_mem 2075 (by decide +kernel) (by decide +kernel)
theorem zk28m4 : zcal zm285 2 := ⟨zGT_mem 2076 (by decide +kernel) (by decide +kernel), zGT_mem 154 (by decide +kernel) (by decide +kernel), by decide +kernel⟩
set_option maxHeartbeats 4000000 in
theorem zl_c28 (F : zlF p s m meth c b L xs Gd cy adK adV) (hRB : zRBr Rel) (ho : zo28 Rel) (hL : L ≤ 3584) {n : Nat} (hn : 7 * n + 7 ≤ L) (K : zHd p l e s m below meth c b Gd cy Rel (n + 1) (7 * n) 1274) : zHd p l e s m below meth c b Gd cy Rel n (7 * n) 1074 := by
  intro hx hm adx adm H locs ls R wx wm Px Pm Dx Dm dis S hl
  obtain ⟨r, hx', hm', ex, em, R'⟩ := ho n hx hm R (xs (7 * n + 1)) (xs (7 * n + 2))
  have bx := (zsnd l _ _ _ _ _ _ _ ex).1
  have bm := (zsnd l _ _ _ _ _ _ _ em).1
  dsimp only at bx bm
  obtain ⟨-, ⟨nx, rx, x0⟩, ⟨nm, rm, m0⟩, -⟩ := hRB _ _ _ R
  obtain ⟨hB1, hB2⟩ := (hRB _ _ _ R').1 (by omega)
  refine lv_aload_n F.1 F.2.1 zd_1074 rfl (lv_at hl 1 rfl) ?_
  refine zl_argA F hl zd_1075 zd_1076 ?_
  refine lv_iconst (v := 1) F.1 F.2.1 zd_1077 (by decide) ?_
  refine zl_argB (k := 1) F rfl S (by omega) hL zd_1078 zd_1079 ?_
  refine zl_argA F hl zd_1080 zd_1081 ?_
  refine lv_iconst (v := 2) F.1 F.2.1 zd_1082 (by decide) ?_
  refine zl_argB (k := 2) F rfl S (by omega) hL zd_1083 zd_1084 ?_
  refine zl_callV F.1 F.2.1 F.2.2.2.1 F.2.2.2.2.1 F.2.2.2.2.2.1 F.2.2.2.2.2.2.2.2.2 148 10 2 (as := [.int (xs (7 * n + 1)), .int (xs (7 * n + 2))]) (rest := []) (h := hx) (h2 := hm) (h' := hx') (ad := adx) (ad2 := adm) ex (by decide) (by decide +kernel) (Nat.le_of_ble_eq_true rfl) (fun v hv => by simp only [List.mem_cons, List.not_mem_nil, or_false] at hv; rcases hv with rfl | rfl <;> exact ⟨_, rfl⟩) x0 (by decide) (r := (RX11, TX11, 17)) rfl wx rfl zk28x1 zk28x2 zk28x3 zk28x4 (by decide) hl.1 (Nat.le_of_ble_eq_true rfl) zd_1085 Px Pm Dx dis S ⟨by have zr := zroom; show _ ≤ room_1.cells; omega, by have zr := zroom; show _ ≤ room_1.slots; omega⟩ ?_
  intro _ _ adx' H1 locs1 ea Px1 Pm1 Dx1 dis1 wx1 S
  refine lv_aload_n F.1 F.2.1 zd_1088 rfl (lv_at hl 2 rfl) ?_
  refine zl_argA F hl zd_1089 zd_1090 ?_
  refine lv_iconst (v := 1) F.1 F.2.1 zd_1091 (by decide) ?_
  refine zl_argB (k := 1) F rfl S (by omega) hL zd_1092 zd_1093 ?_
  refine zl_argA F hl zd_1094 zd_1095 ?_
  refine lv_iconst (v := 2) F.1 F.2.1 zd_1096 (by decide) ?_
  refine zl_argB (k := 2) F rfl S (by omega) hL zd_1097 zd_1098 ?_
  refine zl_callV F.1 F.2.1 F.2.2.2.1 F.2.2.2.2.1 F.2.2.2.2.2.1 F.2.2.2.2.2.2.2.2.2 285 11 2 (as := [.int (xs (7 * n + 1)), .int (xs (7 * n + 2))]) (rest := [.int r]) (h := hm) (h2 := hx') (h' := hm') (ad := adm) (ad2 := adx') em (by decide) (by decide +kernel) (Nat.le_of_ble_eq_true rfl) (fun v hv => by simp only [List.mem_cons, List.not_mem_nil, or_false] at hv; rcases hv with rfl | rfl <;> exact ⟨_, rfl⟩) m0 (by decide) (r := (RX12, TX12, 39)) rfl wm rfl zk28m1 zk28m2 zk28m3 zk28m4 (by decide) hl.1 (Nat.le_of_ble_eq_true rfl) zd_1099 Pm1 Px1 Dm dis1.sym S ⟨by have zr := zroom; show _ ≤ room_1.cells; omega, by have zr := zroom; show _ ≤ room_1.slots; omega⟩ ?_
  intro _ _ adm' H2 locs2 eb Pm2 Px2 Dm2 dis2 wm2 S
  refine lv_icmp_eq (tgt := 1274) F.1 F.2.1 zd_1102 (by decide) (fun _ => ?_) (fun q => absurd rfl q)
  refine zW_eq (K hx' hm' adx' adm' H2 locs2 ls R' wx1 wm2 Px2 Pm2 Dx1 Dm2 dis2.sym S ?_) (by omega) (by omega)
  rw [ea 0 (List.getElem?_eq_some_iff.mp x0).1, eb 0 (List.getElem?_eq_some_iff.mp m0).1]
  exact hl
/-- seed -/
theorem zk29x1 : Cond.methodLink R_law 136 zm149.1 ∈ zGT := zGT_mem 1368 (by decide +kernel) (by decide +kernel)
theorem zk29x2 : Cond.instanceMethod zm149.1 ∈ zGT := zGT_mem 1369 (by decide +kernel) (by decide +kernel)
theorem zk29x3 : Cond.selects "BookBarge" zm149.1 zm149.1 ∈ zGT := zGT_mem 1370 (by decide +kernel) (by decide +kernel)
theorem zk29x4 : zcal zm149 1 := ⟨zGT_mem 1371 (by decide +kernel) (by decide +kernel), zGT_mem 143 (by decide +kernel) (by decide +kernel), by decide +kernel⟩
theorem zk29m1 : Cond.methodLink R_law 139 zm286.1 ∈ zGT := zGT_mem 2089 (by decide +kernel) (by decide +kernel)
theorem zk29m2 : Cond.instanceMethod zm286.1 ∈ zGT := zGT_mem 2090 (by decide +kernel) (by decide +kernel)
theorem zk29m3 : Cond.selects "BookBargeModel" zm286.1 zm286.1 ∈ zGT := zGT_mem 2091 (by decide +kernel) (by decide +kernel)
theorem zk29m4 : zcal zm286 1 := ⟨zGT_mem 2092 (by decide +kernel) (by decide +kernel), zGT_mem 154 (by decide +kernel) (by decide +kernel), by decide +kernel⟩
set_option maxHeartbeats 4000000 in
theorem zl_c29 (F : zlF p s m meth c b L xs Gd cy adK adV) (hRB : zRBr Rel) (ho : zo29 Rel) (hL : L ≤ 3584) {n : Nat} (hn : 7 * n + 7 ≤ L) (K : zHd p l e s m below meth c b Gd cy Rel (n + 1) (7 * n) 1274) : zHd p l e s m below meth c b Gd cy Rel n (7 * n) 1107 := by
  intro hx hm adx adm H locs ls R wx wm Px Pm Dx Dm dis S hl
  obtain ⟨r, hx', hm', ex, em, R'⟩ := ho n hx hm R (xs (7 * n + 1))
  have bx := (zsnd l _ _ _ _ _ _ _ ex).1
  have bm := (zsnd l _ _ _ _ _ _ _ em).1
  dsimp only at bx bm
  obtain ⟨-, ⟨nx, rx, x0⟩, ⟨nm, rm, m0⟩, -⟩ := hRB _ _ _ R
  obtain ⟨hB1, hB2⟩ := (hRB _ _ _ R').1 (by omega)
  refine lv_aload_n F.1 F.2.1 zd_1107 rfl (lv_at hl 1 rfl) ?_
  refine zl_argA F hl zd_1108 zd_1109 ?_
  refine lv_iconst (v := 1) F.1 F.2.1 zd_1110 (by decide) ?_
  refine zl_argB (k := 1) F rfl S (by omega) hL zd_1111 zd_1112 ?_
  refine zl_callV F.1 F.2.1 F.2.2.2.1 F.2.2.2.2.1 F.2.2.2.2.2.1 F.2.2.2.2.2.2.2.2.2 149 10 1 (as := [.int (xs (7 * n + 1))]) (rest := []) (h := hx) (h2 := hm) (h' := hx') (ad := adx) (ad2 := adm) ex (by decide) (by decide +kernel) (Nat.le_of_ble_eq_true rfl) (fun v hv => by simp only [List.mem_cons, List.not_mem_nil, or_false] at hv; subst hv; exact ⟨_, rfl⟩) x0 (by decide) (r := (RX11, TX11, 17)) rfl wx rfl zk29x1 zk29x2 zk29x3 zk29x4 (by decide) hl.1 (Nat.le_of_ble_eq_true rfl) zd_1113 Px Pm Dx dis S ⟨by have zr := zroom; show _ ≤ room_1.cells; omega, by have zr := zroom; show _ ≤ room_1.slots; omega⟩ ?_
  intro _ _ adx' H1 locs1 ea Px1 Pm1 Dx1 dis1 wx1 S
  refine lv_aload_n F.1 F.2.1 zd_1116 rfl (lv_at hl 2 rfl) ?_
  refine zl_argA F hl zd_1117 zd_1118 ?_
  refine lv_iconst (v := 1) F.1 F.2.1 zd_1119 (by decide) ?_
  refine zl_argB (k := 1) F rfl S (by omega) hL zd_1120 zd_1121 ?_
  refine zl_callV F.1 F.2.1 F.2.2.2.1 F.2.2.2.2.1 F.2.2.2.2.2.1 F.2.2.2.2.2.2.2.2.2 286 11 1 (as := [.int (xs (7 * n + 1))]) (rest := [.int r]) (h := hm) (h2 := hx') (h' := hm') (ad := adm) (ad2 := adx') em (by decide) (by decide +kernel) (Nat.le_of_ble_eq_true rfl) (fun v hv => by simp only [List.mem_cons, List.not_mem_nil, or_false] at hv; subst hv; exact ⟨_, rfl⟩) m0 (by decide) (r := (RX12, TX12, 39)) rfl wm rfl zk29m1 zk29m2 zk29m3 zk29m4 (by decide) hl.1 (Nat.le_of_ble_eq_true rfl) zd_1122 Pm1 Px1 Dm dis1.sym S ⟨by have zr := zroom; show _ ≤ room_1.cells; omega, by have zr := zroom; show _ ≤ room_1.slots; omega⟩ ?_
  intro _ _ adm' H2 locs2 eb Pm2 Px2 Dm2 dis2 wm2 S
  refine lv_icmp_eq (tgt := 1274) F.1 F.2.1 zd_1125 (by decide) (fun _ => ?_) (fun q => absurd rfl q)
  refine zW_eq (K hx' hm' adx' adm' H2 locs2 ls R' wx1 wm2 Px2 Pm2 Dx1 Dm2 dis2.sym S ?_) (by omega) (by omega)
  rw [ea 0 (List.getElem?_eq_some_iff.mp x0).1, eb 0 (List.getElem?_eq_some_iff.mp m0).1]
  exact hl
/-- voyages -/
theorem zk30x1 : Cond.methodLink R_law 140 zm150.1 ∈ zGT := zGT_mem 1372 (by decide +kernel) (by decide +kernel)
theorem zk30x2 : Cond.instanceMethod zm150.1 ∈ zGT := zGT_mem 1373 (by decide +kernel) (by decide +kernel)
theorem zk30x3 : Cond.selects "BookBarge" zm150.1 zm150.1 ∈ zGT := zGT_mem 1374 (by decide +kernel) (by decide +kernel)
theorem zk30x4 : zcal zm150 6 := ⟨zGT_mem 1375 (by decide +kernel) (by decide +kernel), zGT_mem 143 (by decide +kernel) (by decide +kernel), by decide +kernel⟩
theorem zk30m1 : Cond.methodLink R_law 144 zm291.1 ∈ zGT := zGT_mem 2093 (by decide +kernel) (by decide +kernel)
theorem zk30m2 : Cond.instanceMethod zm291.1 ∈ zGT := zGT_mem 2094 (by decide +kernel) (by decide +kernel)
theorem zk30m3 : Cond.selects "BookBargeModel" zm291.1 zm291.1 ∈ zGT := zGT_mem 2095 (by decide +kernel) (by decide +kernel)
theorem zk30m4 : zcal zm291 6 := ⟨zGT_mem 2096 (by decide +kernel) (by decide +kernel), zGT_mem 154 (by decide +kernel) (by decide +kernel), by decide +kernel⟩
set_option maxHeartbeats 4000000 in
theorem zl_c30 (F : zlF p s m meth c b L xs Gd cy adK adV) (hRB : zRBr Rel) (ho : zo30 Rel) (hL : L ≤ 3584) {n : Nat} (hn : 7 * n + 7 ≤ L) (K : zHd p l e s m below meth c b Gd cy Rel (n + 1) (7 * n) 1274) : zHd p l e s m below meth c b Gd cy Rel n (7 * n) 1130 := by
  intro hx hm adx adm H locs ls R wx wm Px Pm Dx Dm dis S hl
  obtain ⟨r, hx', hm', ex, em, R'⟩ := ho n hx hm R (xs (7 * n + 1)) (xs (7 * n + 2)) (xs (7 * n + 3)) (xs (7 * n + 4)) (xs (7 * n + 5)) (xs (7 * n + 6))
  have bx := (zsnd l _ _ _ _ _ _ _ ex).1
  have bm := (zsnd l _ _ _ _ _ _ _ em).1
  dsimp only at bx bm
  obtain ⟨-, ⟨nx, rx, x0⟩, ⟨nm, rm, m0⟩, -⟩ := hRB _ _ _ R
  obtain ⟨hB1, hB2⟩ := (hRB _ _ _ R').1 (by omega)
  refine lv_aload_n F.1 F.2.1 zd_1130 rfl (lv_at hl 1 rfl) ?_
  refine zl_argA F hl zd_1131 zd_1132 ?_
  refine lv_iconst (v := 1) F.1 F.2.1 zd_1133 (by decide) ?_
  refine zl_argB (k := 1) F rfl S (by omega) hL zd_1134 zd_1135 ?_
  refine zl_argA F hl zd_1136 zd_1137 ?_
  refine lv_iconst (v := 2) F.1 F.2.1 zd_1138 (by decide) ?_
  refine zl_argB (k := 2) F rfl S (by omega) hL zd_1139 zd_1140 ?_
  refine zl_argA F hl zd_1141 zd_1142 ?_
  refine lv_iconst (v := 3) F.1 F.2.1 zd_1143 (by decide) ?_
  refine zl_argB (k := 3) F rfl S (by omega) hL zd_1144 zd_1145 ?_
  refine zl_argA F hl zd_1146 zd_1147 ?_
  refine lv_iconst (v := 4) F.1 F.2.1 zd_1148 (by decide) ?_
  refine zl_argB (k := 4) F rfl S (by omega) hL zd_1149 zd_1150 ?_
  refine zl_argA F hl zd_1151 zd_1152 ?_
  refine lv_iconst (v := 5) F.1 F.2.1 zd_1153 (by decide) ?_
  refine zl_argB (k := 5) F rfl S (by omega) hL zd_1154 zd_1155 ?_
  refine zl_argA F hl zd_1156 zd_1157 ?_
  refine lv_bipush (v := 6) F.1 F.2.1 zd_1158 (by decide) ?_
  refine zl_argB (k := 6) F rfl S (by omega) hL zd_1160 zd_1161 ?_
  refine zl_callV F.1 F.2.1 F.2.2.2.1 F.2.2.2.2.1 F.2.2.2.2.2.1 F.2.2.2.2.2.2.2.2.2 150 10 6 (as := [.int (xs (7 * n + 1)), .int (xs (7 * n + 2)), .int (xs (7 * n + 3)), .int (xs (7 * n + 4)), .int (xs (7 * n + 5)), .int (xs (7 * n + 6))]) (rest := []) (h := hx) (h2 := hm) (h' := hx') (ad := adx) (ad2 := adm) ex (by decide) (by decide +kernel) (Nat.le_of_ble_eq_true rfl) (fun v hv => by simp only [List.mem_cons, List.not_mem_nil, or_false] at hv; rcases hv with rfl | rfl | rfl | rfl | rfl | rfl <;> exact ⟨_, rfl⟩) x0 (by decide) (r := (RX11, TX11, 17)) rfl wx rfl zk30x1 zk30x2 zk30x3 zk30x4 (by decide) hl.1 (Nat.le_of_ble_eq_true rfl) zd_1162 Px Pm Dx dis S ⟨by have zr := zroom; show _ ≤ room_1.cells; omega, by have zr := zroom; show _ ≤ room_1.slots; omega⟩ ?_
  intro _ _ adx' H1 locs1 ea Px1 Pm1 Dx1 dis1 wx1 S
  refine lv_aload_n F.1 F.2.1 zd_1165 rfl (lv_at hl 2 rfl) ?_
  refine zl_argA F hl zd_1166 zd_1167 ?_
  refine lv_iconst (v := 1) F.1 F.2.1 zd_1168 (by decide) ?_
  refine zl_argB (k := 1) F rfl S (by omega) hL zd_1169 zd_1170 ?_
  refine zl_argA F hl zd_1171 zd_1172 ?_
  refine lv_iconst (v := 2) F.1 F.2.1 zd_1173 (by decide) ?_
  refine zl_argB (k := 2) F rfl S (by omega) hL zd_1174 zd_1175 ?_
  refine zl_argA F hl zd_1176 zd_1177 ?_
  refine lv_iconst (v := 3) F.1 F.2.1 zd_1178 (by decide) ?_
  refine zl_argB (k := 3) F rfl S (by omega) hL zd_1179 zd_1180 ?_
  refine zl_argA F hl zd_1181 zd_1182 ?_
  refine lv_iconst (v := 4) F.1 F.2.1 zd_1183 (by decide) ?_
  refine zl_argB (k := 4) F rfl S (by omega) hL zd_1184 zd_1185 ?_
  refine zl_argA F hl zd_1186 zd_1187 ?_
  refine lv_iconst (v := 5) F.1 F.2.1 zd_1188 (by decide) ?_
  refine zl_argB (k := 5) F rfl S (by omega) hL zd_1189 zd_1190 ?_
  refine zl_argA F hl zd_1191 zd_1192 ?_
  refine lv_bipush (v := 6) F.1 F.2.1 zd_1193 (by decide) ?_
  refine zl_argB (k := 6) F rfl S (by omega) hL zd_1195 zd_1196 ?_
  refine zl_callV F.1 F.2.1 F.2.2.2.1 F.2.2.2.2.1 F.2.2.2.2.2.1 F.2.2.2.2.2.2.2.2.2 291 11 6 (as := [.int (xs (7 * n + 1)), .int (xs (7 * n + 2)), .int (xs (7 * n + 3)), .int (xs (7 * n + 4)), .int (xs (7 * n + 5)), .int (xs (7 * n + 6))]) (rest := [.int r]) (h := hm) (h2 := hx') (h' := hm') (ad := adm) (ad2 := adx') em (by decide) (by decide +kernel) (Nat.le_of_ble_eq_true rfl) (fun v hv => by simp only [List.mem_cons, List.not_mem_nil, or_false] at hv; rcases hv with rfl | rfl | rfl | rfl | rfl | rfl <;> exact ⟨_, rfl⟩) m0 (by decide) (r := (RX12, TX12, 39)) rfl wm rfl zk30m1 zk30m2 zk30m3 zk30m4 (by decide) hl.1 (Nat.le_of_ble_eq_true rfl) zd_1197 Pm1 Px1 Dm dis1.sym S ⟨by have zr := zroom; show _ ≤ room_1.cells; omega, by have zr := zroom; show _ ≤ room_1.slots; omega⟩ ?_
  intro _ _ adm' H2 locs2 eb Pm2 Px2 Dm2 dis2 wm2 S
  refine lv_icmp_eq (tgt := 1274) F.1 F.2.1 zd_1200 (by decide) (fun _ => ?_) (fun q => absurd rfl q)
  refine zW_eq (K hx' hm' adx' adm' H2 locs2 ls R' wx1 wm2 Px2 Pm2 Dx1 Dm2 dis2.sym S ?_) (by omega) (by omega)
  rw [ea 0 (List.getElem?_eq_some_iff.mp x0).1, eb 0 (List.getElem?_eq_some_iff.mp m0).1]
  exact hl
/-- count -/
theorem zk31x1 : Cond.methodLink R_law 145 zm151.1 ∈ zGT := zGT_mem 1396 (by decide +kernel) (by decide +kernel)
theorem zk31x2 : Cond.instanceMethod zm151.1 ∈ zGT := zGT_mem 1397 (by decide +kernel) (by decide +kernel)
theorem zk31x3 : Cond.selects "BookBarge" zm151.1 zm151.1 ∈ zGT := zGT_mem 1398 (by decide +kernel) (by decide +kernel)
theorem zk31x4 : zcal zm151 1 := ⟨zGT_mem 1399 (by decide +kernel) (by decide +kernel), zGT_mem 143 (by decide +kernel) (by decide +kernel), by decide +kernel⟩
theorem zk31m1 : Cond.methodLink R_law 148 zm292.1 ∈ zGT := zGT_mem 2118 (by decide +kernel) (by decide +kernel)
theorem zk31m2 : Cond.instanceMethod zm292.1 ∈ zGT := zGT_mem 2119 (by decide +kernel) (by decide +kernel)
theorem zk31m3 : Cond.selects "BookBargeModel" zm292.1 zm292.1 ∈ zGT := zGT_mem 2120 (by decide +kernel) (by decide +kernel)
theorem zk31m4 : zcal zm292 1 := ⟨zGT_mem 2121 (by decide +kernel) (by decide +kernel), zGT_mem 154 (by decide +kernel) (by decide +kernel), by decide +kernel⟩
set_option maxHeartbeats 4000000 in
theorem zl_c31 (F : zlF p s m meth c b L xs Gd cy adK adV) (hRB : zRBr Rel) (ho : zo31 Rel) (hL : L ≤ 3584) {n : Nat} (hn : 7 * n + 7 ≤ L) (K : zHd p l e s m below meth c b Gd cy Rel (n + 1) (7 * n) 1274) : zHd p l e s m below meth c b Gd cy Rel n (7 * n) 1205 := by
  intro hx hm adx adm H locs ls R wx wm Px Pm Dx Dm dis S hl
  obtain ⟨r, hx', hm', ex, em, R'⟩ := ho n hx hm R (xs (7 * n + 1))
  have bx := (zsnd l _ _ _ _ _ _ _ ex).1
  have bm := (zsnd l _ _ _ _ _ _ _ em).1
  dsimp only at bx bm
  obtain ⟨-, ⟨nx, rx, x0⟩, ⟨nm, rm, m0⟩, -⟩ := hRB _ _ _ R
  obtain ⟨hB1, hB2⟩ := (hRB _ _ _ R').1 (by omega)
  refine lv_aload_n F.1 F.2.1 zd_1205 rfl (lv_at hl 1 rfl) ?_
  refine zl_argA F hl zd_1206 zd_1207 ?_
  refine lv_iconst (v := 1) F.1 F.2.1 zd_1208 (by decide) ?_
  refine zl_argB (k := 1) F rfl S (by omega) hL zd_1209 zd_1210 ?_
  refine zl_callV F.1 F.2.1 F.2.2.2.1 F.2.2.2.2.1 F.2.2.2.2.2.1 F.2.2.2.2.2.2.2.2.2 151 10 1 (as := [.int (xs (7 * n + 1))]) (rest := []) (h := hx) (h2 := hm) (h' := hx') (ad := adx) (ad2 := adm) ex (by decide) (by decide +kernel) (Nat.le_of_ble_eq_true rfl) (fun v hv => by simp only [List.mem_cons, List.not_mem_nil, or_false] at hv; subst hv; exact ⟨_, rfl⟩) x0 (by decide) (r := (RX11, TX11, 17)) rfl wx rfl zk31x1 zk31x2 zk31x3 zk31x4 (by decide) hl.1 (Nat.le_of_ble_eq_true rfl) zd_1211 Px Pm Dx dis S ⟨by have zr := zroom; show _ ≤ room_1.cells; omega, by have zr := zroom; show _ ≤ room_1.slots; omega⟩ ?_
  intro _ _ adx' H1 locs1 ea Px1 Pm1 Dx1 dis1 wx1 S
  refine lv_aload_n F.1 F.2.1 zd_1214 rfl (lv_at hl 2 rfl) ?_
  refine zl_argA F hl zd_1215 zd_1216 ?_
  refine lv_iconst (v := 1) F.1 F.2.1 zd_1217 (by decide) ?_
  refine zl_argB (k := 1) F rfl S (by omega) hL zd_1218 zd_1219 ?_
  refine zl_callV F.1 F.2.1 F.2.2.2.1 F.2.2.2.2.1 F.2.2.2.2.2.1 F.2.2.2.2.2.2.2.2.2 292 11 1 (as := [.int (xs (7 * n + 1))]) (rest := [.int r]) (h := hm) (h2 := hx') (h' := hm') (ad := adm) (ad2 := adx') em (by decide) (by decide +kernel) (Nat.le_of_ble_eq_true rfl) (fun v hv => by simp only [List.mem_cons, List.not_mem_nil, or_false] at hv; subst hv; exact ⟨_, rfl⟩) m0 (by decide) (r := (RX12, TX12, 39)) rfl wm rfl zk31m1 zk31m2 zk31m3 zk31m4 (by decide) hl.1 (Nat.le_of_ble_eq_true rfl) zd_1220 Pm1 Px1 Dm dis1.sym S ⟨by have zr := zroom; show _ ≤ room_1.cells; omega, by have zr := zroom; show _ ≤ room_1.slots; omega⟩ ?_
  intro _ _ adm' H2 locs2 eb Pm2 Px2 Dm2 dis2 wm2 S
  refine lv_icmp_eq (tgt := 1274) F.1 F.2.1 zd_1223 (by decide) (fun _ => ?_) (fun q => absurd rfl q)
  refine zW_eq (K hx' hm' adx' adm' H2 locs2 ls R' wx1 wm2 Px2 Pm2 Dx1 Dm2 dis2.sym S ?_) (by omega) (by omega)
  rw [ea 0 (List.getElem?_eq_some_iff.mp x0).1, eb 0 (List.getElem?_eq_some_iff.mp m0).1]
  exact hl
/-- image -/
theorem zk32x1 : Cond.methodLink R_law 149 zm152.1 ∈ zGT := zGT_mem 1404 (by decide +kernel) (by decide +kernel)
theorem zk32x2 : Cond.instanceMethod zm152.1 ∈ zGT := zGT_mem 1405 (by decide +kernel) (by decide +kernel)
theorem zk32x3 : Cond.selects "BookBarge" zm152.1 zm152.1 ∈ zGT := zGT_mem 1406 (by decide +kernel) (by decide +kernel)
theorem zk32x4 : zcal zm152 1 := ⟨zGT_mem 1407 (by decide +kernel) (by decide +kernel), zGT_mem 143 (by decide +kernel) (by decide +kernel), by decide +kernel⟩
theorem zk32m1 : Cond.methodLink R_law 152 zm294.1 ∈ zGT := zGT_mem 2126 (by decide +kernel) (by decide +kernel)
theorem zk32m2 : Cond.instanceMethod zm294.1 ∈ zGT := zGT_mem 2127 (by decide +kernel) (by decide +kernel)
theorem zk32m3 : Cond.selects "BookBargeModel" zm294.1 zm294.1 ∈ zGT := zGT_mem 2128 (by decide +kernel) (by decide +kernel)
theorem zk32m4 : zcal zm294 1 := ⟨zGT_mem 2129 (by decide +kernel) (by decide +kernel), zGT_mem 154 (by decide +kernel) (by decide +kernel), by decide +kernel⟩
set_option maxHeartbeats 4000000 in
theorem zl_c32 (F : zlF p s m meth c b L xs Gd cy adK adV) (hRB : zRBr Rel) (ho : zo32 Rel) (hL : L ≤ 3584) {n : Nat} (hn : 7 * n + 7 ≤ L) (K : zHd p l e s m below meth c b Gd cy Rel (n + 1) (7 * n) 1274) : zHd p l e s m below meth c b Gd cy Rel n (7 * n) 1228 := by
  intro hx hm adx adm H locs ls R wx wm Px Pm Dx Dm dis S hl
  obtain ⟨r, hx', hm', ex, em, R'⟩ := ho n hx hm R (xs (7 * n + 1))
  have bx := (zsnd l _ _ _ _ _ _ _ ex).1
  have bm := (zsnd l _ _ _ _ _ _ _ em).1
  dsimp only at bx bm
  obtain ⟨-, ⟨nx, rx, x0⟩, ⟨nm, rm, m0⟩, -⟩ := hRB _ _ _ R
  obtain ⟨hB1, hB2⟩ := (hRB _ _ _ R').1 (by omega)
  refine lv_aload_n F.1 F.2.1 zd_1228 rfl (lv_at hl 1 rfl) ?_
  refine zl_argA F hl zd_1229 zd_1230 ?_
  refine lv_iconst (v := 1) F.1 F.2.1 zd_1231 (by decide) ?_
  refine zl_argB (k := 1) F rfl S (by omega) hL zd_1232 zd_1233 ?_
  refine zl_callV F.1 F.2.1 F.2.2.2.1 F.2.2.2.2.1 F.2.2.2.2.2.1 F.2.2.2.2.2.2.2.2.2 152 10 1 (as := [.int (xs (7 * n + 1))]) (rest := []) (h := hx) (h2 := hm) (h' := hx') (ad := adx) (ad2 := adm) ex (by decide) (by decide +kernel) (Nat.le_of_ble_eq_true rfl) (fun v hv => by simp only [List.mem_cons, List.not_mem_nil, or_false] at hv; subst hv; exact ⟨_, rfl⟩) x0 (by decide) (r := (RX11, TX11, 17)) rfl wx rfl zk32x1 zk32x2 zk32x3 zk32x4 (by decide) hl.1 (Nat.le_of_ble_eq_true rfl) zd_1234 Px Pm Dx dis S ⟨by have zr := zroom; show _ ≤ room_1.cells; omega, by have zr := zroom; show _ ≤ room_1.slots; omega⟩ ?_
  intro _ _ adx' H1 locs1 ea Px1 Pm1 Dx1 dis1 wx1 S
  refine lv_aload_n F.1 F.2.1 zd_1237 rfl (lv_at hl 2 rfl) ?_
  refine zl_argA F hl zd_1238 zd_1239 ?_
  refine lv_iconst (v := 1) F.1 F.2.1 zd_1240 (by decide) ?_
  refine zl_argB (k := 1) F rfl S (by omega) hL zd_1241 zd_1242 ?_
  refine zl_callV F.1 F.2.1 F.2.2.2.1 F.2.2.2.2.1 F.2.2.2.2.2.1 F.2.2.2.2.2.2.2.2.2 294 11 1 (as := [.int (xs (7 * n + 1))]) (rest := [.int r]) (h := hm) (h2 := hx') (h' := hm') (ad := adm) (ad2 := adx') em (by decide) (by decide +kernel) (Nat.le_of_ble_eq_true rfl) (fun v hv => by simp only [List.mem_cons, List.not_mem_nil, or_false] at hv; subst hv; exact ⟨_, rfl⟩) m0 (by decide) (r := (RX12, TX12, 39)) rfl wm rfl zk32m1 zk32m2 zk32m3 zk32m4 (by decide) hl.1 (Nat.le_of_ble_eq_true rfl) zd_1243 Pm1 Px1 Dm dis1.sym S ⟨by have zr := zroom; show _ ≤ room_1.cells; omega, by have zr := zroom; show _ ≤ room_1.slots; omega⟩ ?_
  intro _ _ adm' H2 locs2 eb Pm2 Px2 Dm2 dis2 wm2 S
  refine lv_icmp_eq (tgt := 1274) F.1 F.2.1 zd_1246 (by decide) (fun _ => ?_) (fun q => absurd rfl q)
  refine zW_eq (K hx' hm' adx' adm' H2 locs2 ls R' wx1 wm2 Px2 Pm2 Dx1 Dm2 dis2.sym S ?_) (by omega) (by omega)
  rw [ea 0 (List.getElem?_eq_some_iff.mp x0).1, eb 0 (List.getElem?_eq_some_iff.mp m0).1]
  exact hl
/-- back -/
theorem zk33x1 : Cond.methodLink R_law 153 zm153.1 ∈ zGT := zGT_mem 1408 (by decide +kernel) (by decide +kernel)
theorem zk33x2 : Cond.instanceMethod zm153.1 ∈ zGT := zGT_mem 1409 (by decide +kernel) (by decide +kernel)
theorem zk33x3 : Cond.selects "BookBarge" zm153.1 zm153.1 ∈ zGT := zGT_mem 1410 (by decide +kernel) (by decide +kernel)
theorem zk33x4 : zcal zm153 1 := ⟨zGT_mem 1411 (by decide +kernel) (by decide +kernel), zGT_mem 143 (by decide +kernel) (by decide +kernel), by decide +kernel⟩
theorem zk33m1 : Cond.methodLink R_law 156 zm295.1 ∈ zGT := zGT_mem 2131 (by decide +kernel) (by decide +kernel)
theorem zk33m2 : Cond.instanceMethod zm295.1 ∈ zGT := zGT_mem 2132 (by decide +kernel) (by decide +kernel)
theorem zk33m3 : Cond.selects "BookBargeModel" zm295.1 zm295.1 ∈ zGT := zGT_mem 2133 (by decide +kernel) (by decide +kernel)
theorem zk33m4 : zcal zm295 1 := ⟨zGT_mem 2134 (by decide +kernel) (by decide +kernel), zGT_mem 154 (by decide +kernel) (by decide +kernel), by decide +kernel⟩
set_option maxHeartbeats 4000000 in
theorem zl_c33 (F : zlF p s m meth c b L xs Gd cy adK adV) (hRB : zRBr Rel) (ho : zo33 Rel) (hL : L ≤ 3584) {n : Nat} (hn : 7 * n + 7 ≤ L) (K : zHd p l e s m below meth c b Gd cy Rel (n + 1) (7 * n) 1274) : zHd p l e s m below meth c b Gd cy Rel n (7 * n) 1251 := by
  intro hx hm adx adm H locs ls R wx wm Px Pm Dx Dm dis S hl
  obtain ⟨r, hx', hm', ex, em, R'⟩ := ho n hx hm R (xs (7 * n + 1))
  have bx := (zsnd l _ _ _ _ _ _ _ ex).1
  have bm := (zsnd l _ _ _ _ _ _ _ em).1
  dsimp only at bx bm
  obtain ⟨-, ⟨nx, rx, x0⟩, ⟨nm, rm, m0⟩, -⟩ := hRB _ _ _ R
  obtain ⟨hB1, hB2⟩ := (hRB _ _ _ R').1 (by omega)
  refine lv_aload_n F.1 F.2.1 zd_1251 rfl (lv_at hl 1 rfl) ?_
  refine zl_argA F hl zd_1252 zd_1253 ?_
  refine lv_iconst (v := 1) F.1 F.2.1 zd_1254 (by decide) ?_
  refine zl_argB (k := 1) F rfl S (by omega) hL zd_1255 zd_1256 ?_
  refine zl_callV F.1 F.2.1 F.2.2.2.1 F.2.2.2.2.1 F.2.2.2.2.2.1 F.2.2.2.2.2.2.2.2.2 153 10 1 (as := [.int (xs (7 * n + 1))]) (rest := []) (h := hx) (h2 := hm) (h' := hx') (ad := adx) (ad2 := adm) ex (by decide) (by decide +kernel) (Nat.le_of_ble_eq_true rfl) (fun v hv => by simp only [List.mem_cons, List.not_mem_nil, or_false] at hv; subst hv; exact ⟨_, rfl⟩) x0 (by decide) (r := (RX11, TX11, 17)) rfl wx rfl zk33x1 zk33x2 zk33x3 zk33x4 (by decide) hl.1 (Nat.le_of_ble_eq_true rfl) zd_1257 Px Pm Dx dis S ⟨by have zr := zroom; show _ ≤ room_1.cells; omega, by have zr := zroom; show _ ≤ room_1.slots; omega⟩ ?_
  intro _ _ adx' H1 locs1 ea Px1 Pm1 Dx1 dis1 wx1 S
  refine lv_aload_n F.1 F.2.1 zd_1260 rfl (lv_at hl 2 rfl) ?_
  refine zl_argA F hl zd_1261 zd_1262 ?_
  refine lv_iconst (v := 1) F.1 F.2.1 zd_1263 (by decide) ?_
  refine zl_argB (k := 1) F rfl S (by omega) hL zd_1264 zd_1265 ?_
  refine zl_callV F.1 F.2.1 F.2.2.2.1 F.2.2.2.2.1 F.2.2.2.2.2.1 F.2.2.2.2.2.2.2.2.2 295 11 1 (as := [.int (xs (7 * n + 1))]) (rest := [.int r]) (h := hm) (h2 := hx') (h' := hm') (ad := adm) (ad2 := adx') em (by decide) (by decide +kernel) (Nat.le_of_ble_eq_true rfl) (fun v hv => by simp only [List.mem_cons, List.not_mem_nil, or_false] at hv; subst hv; exact ⟨_, rfl⟩) m0 (by decide) (r := (RX12, TX12, 39)) rfl wm rfl zk33m1 zk33m2 zk33m3 zk33m4 (by decide) hl.1 (Nat.le_of_ble_eq_true rfl) zd_1266 Pm1 Px1 Dm dis1.sym S ⟨by have zr := zroom; show _ ≤ room_1.cells; omega, by have zr := zroom; show _ ≤ room_1.slots; omega⟩ ?_
  intro _ _ adm' H2 locs2 eb Pm2 Px2 Dm2 dis2 wm2 S
  refine lv_icmp_eq (tgt := 1274) F.1 F.2.1 zd_1269 (by decide) (fun _ => ?_) (fun q => absurd rfl q)
  refine zW_eq (K hx' hm' adx' adm' H2 locs2 ls R' wx1 wm2 Px2 Pm2 Dx1 Dm2 dis2.sym S ?_) (by omega) (by omega)
  rw [ea 0 (List.getElem?_eq_some_iff.mp x0).1, eb 0 (List.getElem?_eq_some_iff.mp m0).1]
  exact hl
theorem zl_next (F : zlF p s m meth c b L xs Gd cy adK adV) {n i : Nat} (K : zHd p l e s m below meth c b Gd cy Rel n (i + 7) 18) : zHd p l e s m below meth c b Gd cy Rel n i 1274 := by
  intro hx hm adx adm H locs ls R wx wm Px Pm Dx Dm dis S hl
  refine lv_iinc (v := nI (i + 7)) (lv' := [(3, .int (nI (i + 7))), (0, .ref b), (1, .ref (adx 0)), (2, .ref (adm 0))]) F.1 F.2.1 zd_1274 hl (k := 3) rfl (nI_add i 7) (by decide) rfl (fun ls hl => ?_)
  refine lv_goto (tgt := 18) F.1 F.2.1 zd_1277 (by decide) ?_
  exact K hx hm adx adm H locs ls R wx wm Px Pm Dx Dm dis S (lv_sub hl [1, 2, 3, 0] rfl)
theorem zl_le {L n : Nat} (hL : L ≤ 3584) (h : 7 * n ≤ L) (q : ¬ nI (7 * n) > Int32.ofNat L - 7) : 7 * n + 7 ≤ L := by
  rcases Nat.lt_or_ge L 7 with h7 | h7
  · exfalso
    obtain rfl : n = 0 := by omega
    apply q
    have : L = 0 ∨ L = 1 ∨ L = 2 ∨ L = 3 ∨ L = 4 ∨ L = 5 ∨ L = 6 := by omega
    rcases this with rfl | rfl | rfl | rfl | rfl | rfl | rfl <;> decide +kernel
  · rcases Nat.lt_or_ge L (7 * n + 7) with h8 | h8
    · exfalso
      apply q
      have e : Int32.ofNat L - 7 = nI (L - 7) := by
        have e1 : nI (L - 7) + 7 = nI L := by
          have := nI_add (L - 7) 7
          rw [show L - 7 + 7 = L by omega] at this
          exact this
        show nI L - 7 = _
        rw [← e1, Int32.add_sub_cancel]
      rw [e]
      exact nI_lt (by omega) (by omega)
    · exact h8
theorem zand63 (x : Int32) : 0 ≤ (x &&& 63).toInt ∧ (x &&& 63).toInt ≤ 63 := by
  have h : (x &&& 63).toBitVec.toNat ≤ 63 := by
    rw [Int32.toBitVec_and, BitVec.toNat_and]
    exact Nat.le_trans Nat.and_le_right (by decide)
  have e : (x &&& 63).toInt = ((x &&& 63).toBitVec.toNat : Int) := by
    show (x &&& 63).toBitVec.toInt = _
    exact BitVec.toInt_eq_toNat_of_lt (by omega)
  rw [e]; omega
set_option maxHeartbeats 4000000 in
theorem zl_loop (F : zlF p s m meth c b L xs Gd cy adK adV) (hRB : zRBr Rel) (hO : zOps Rel) (hL : L ≤ 3584) : ∀ k n : Nat, L < 7 * n + 7 * k → 7 * n ≤ L → zHd p l e s m below meth c b Gd cy Rel n (7 * n) 18 := by
  intro k
  induction k with
  | zero => intro n h1 h2; exact absurd h1 (by omega)
  | succ k ih =>
    intro n h1 h2 hx hm adx adm H locs ls R wx wm Px Pm Dx Dm dis S hl
    obtain ⟨fx, fb, fr, fml, fown, fts, fX, fbl, flocks, fK⟩ := id F
    obtain ⟨o0, o1, o2, o3, o4, o5, o6, o7, o8, o9, o10, o11, o12, o13, o14, o15, o16, o17, o18, o19, o20, o21, o22, o23, o24, o25, o26, o27, o28, o29, o30, o31, o32, o33⟩ := id hO
    refine lv_iload_n fx fb zd_18 rfl (lv_at hl 3 rfl) ?_
    refine lv_aload_n fx fb zd_19 rfl (lv_at hl 0 rfl) ?_
    refine va_slen fx fb fX fbl (Nat.not_le.mpr fbl) S zd_20 ?_
    refine lv_bipush (v := 7) fx fb zd_21 (by decide) ?_
    refine lv_isub fx fb zd_23 ?_
    refine lv_icmp_gt (tgt := 1280) fx fb zd_24 (by decide) (fun q => ?_) (fun q => ?_)
    · obtain ⟨hB1, hB2⟩ := (hRB _ _ _ R).1 (by omega)
      refine lv_iconst (v := 1) fx fb zd_1280 (by decide) ?_
      refine va_forget (fun q hq => S.2.2 q hq) ?_
      refine W.widen (k := room_1.cells) (n := room_1.slots) hB1 hB2 ?_
      exact lw_ret fx fb fr flocks zd_1281
    · have hn : 7 * n + 7 ≤ L := zl_le hL h2 q
      have hN : zHd p l e s m below meth c b Gd cy Rel (n + 1) (7 * n) 1274 := zl_next F (ih (n + 1) (by omega) (by omega))
      refine lv_aload_n fx fb zd_27 rfl (lv_at hl 0 rfl) ?_
      refine lv_iload_n fx fb zd_28 rfl (lv_at hl 3 rfl) ?_
      refine va_sld fx fb fX fbl (Nat.not_le.mpr fbl) S (vp_in_nI (show 7 * n < L by omega) (by omega)) zd_29 ?_
      refine lv_bipush (v := 63) fx fb zd_30 (by decide) ?_
      refine lv_iand fx fb zd_32 ?_
      generalize xs (nI (7 * n)).toNatClampNeg = x0
      obtain ⟨a1, a2⟩ := zand63 x0
      generalize x0 &&& 63 = x at a1 a2 ⊢
      by_cases h33 : 33 < x.toInt
      · refine lv_tableOut (tgt := 1274) fx fb zd_33 (Or.inr h33) (by decide) ?_
        exact hN hx hm adx adm H locs ls (hRB _ _ _ R).2.2.2 wx wm Px Pm Dx Dm dis S hl
      · rcases (show x.toInt = 0 ∨ x.toInt = 1 ∨ x.toInt = 2 ∨ x.toInt = 3 ∨ x.toInt = 4 ∨ x.toInt = 5 ∨ x.toInt = 6 ∨ x.toInt = 7 ∨ x.toInt = 8 ∨ x.toInt = 9 ∨ x.toInt = 10 ∨ x.toInt = 11 ∨ x.toInt = 12 ∨ x.toInt = 13 ∨ x.toInt = 14 ∨ x.toInt = 15 ∨ x.toInt = 16 ∨ x.toInt = 17 ∨ x.toInt = 18 ∨ x.toInt = 19 ∨ x.toInt = 20 ∨ x.toInt = 21 ∨ x.toInt = 22 ∨ x.toInt = 23 ∨ x.toInt = 24 ∨ x.toInt = 25 ∨ x.toInt = 26 ∨ x.toInt = 27 ∨ x.toInt = 28 ∨ x.toInt = 29 ∨ x.toInt = 30 ∨ x.toInt = 31 ∨ x.toInt = 32 ∨ x.toInt = 33 by omega) with hv | hv | hv | hv | hv | hv | hv | hv | hv | hv | hv | hv | hv | hv | hv | hv | hv | hv | hv | hv | hv | hv | hv | hv | hv | hv | hv | hv | hv | hv | hv | hv | hv | hv
        · refine lv_tableIn (off := 151) (tgt := 184) fx fb zd_33 (by omega) h33 (by rw [hv]; rfl) (by decide) ?_
          exact zl_c0 F hRB o0 hL hn hN hx hm adx adm H locs ls R wx wm Px Pm Dx Dm dis S hl
        · refine lv_tableIn (off := 214) (tgt := 247) fx fb zd_33 (by omega) h33 (by rw [hv]; rfl) (by decide) ?_
          exact zl_c1 F hRB o1 hL hn hN hx hm adx adm H locs ls R wx wm Px Pm Dx Dm dis S hl
        · refine lv_tableIn (off := 237) (tgt := 270) fx fb zd_33 (by omega) h33 (by rw [hv]; rfl) (by decide) ?_
          exact zl_c2 F hRB o2 hL hn hN hx hm adx adm H locs ls R wx wm Px Pm Dx Dm dis S hl
        · refine lv_tableIn (off := 250) (tgt := 283) fx fb zd_33 (by omega) h33 (by rw [hv]; rfl) (by decide) ?_
          exact zl_c3 F hRB o3 hL hn hN hx hm adx adm H locs ls R wx wm Px Pm Dx Dm dis S hl
        · refine lv_tableIn (off := 263) (tgt := 296) fx fb zd_33 (by omega) h33 (by rw [hv]; rfl) (by decide) ?_
          exact zl_c4 F hRB o4 hL hn hN hx hm adx adm H locs ls R wx wm Px Pm Dx Dm dis S hl
        · refine lv_tableIn (off := 296) (tgt := 329) fx fb zd_33 (by omega) h33 (by rw [hv]; rfl) (by decide) ?_
          exact zl_c5 F hRB o5 hL hn hN hx hm adx adm H locs ls R wx wm Px Pm Dx Dm dis S hl
        · refine lv_tableIn (off := 329) (tgt := 362) fx fb zd_33 (by omega) h33 (by rw [hv]; rfl) (by decide) ?_
          exact zl_c6 F hRB o6 hL hn hN hx hm adx adm H locs ls R wx wm Px Pm Dx Dm dis S hl
        · refine lv_tableIn (off := 362) (tgt := 395) fx fb zd_33 (by omega) h33 (by rw [hv]; rfl) (by decide) ?_
          exact zl_c7 F hRB o7 hL hn hN hx hm adx adm H locs ls R wx wm Px Pm Dx Dm dis S hl
        · refine lv_tableIn (off := 395) (tgt := 428) fx fb zd_33 (by omega) h33 (by rw [hv]; rfl) (by decide) ?_
          exact zl_c8 F hRB o8 hL hn hN hx hm adx adm H locs ls R wx wm Px Pm Dx Dm dis S hl
        · refine lv_tableIn (off := 428) (tgt := 461) fx fb zd_33 (by omega) h33 (by rw [hv]; rfl) (by decide) ?_
          exact zl_c9 F hRB o9 hL hn hN hx hm adx adm H locs ls R wx wm Px Pm Dx Dm dis S hl
        · refine lv_tableIn (off := 451) (tgt := 484) fx fb zd_33 (by omega) h33 (by rw [hv]; rfl) (by decide) ?_
          exact zl_c10 F hRB o10 hL hn hN hx hm adx adm H locs ls R wx wm Px Pm Dx Dm dis S hl
        · refine lv_tableIn (off := 484) (tgt := 517) fx fb zd_33 (by omega) h33 (by rw [hv]; rfl) (by decide) ?_
          exact zl_c11 F hRB o11 hL hn hN hx hm adx adm H locs ls R wx wm Px Pm Dx Dm dis S hl
        · refine lv_tableIn (off := 527) (tgt := 560) fx fb zd_33 (by omega) h33 (by rw [hv]; rfl) (by decide) ?_
          exact zl_c12 F hRB o12 hL hn hN hx hm adx adm H locs ls R wx wm Px Pm Dx Dm dis S hl
        · refine lv_tableIn (off := 560) (tgt := 593) fx fb zd_33 (by omega) h33 (by rw [hv]; rfl) (by decide) ?_
          exact zl_c13 F hRB o13 hL hn hN hx hm adx adm H locs ls R wx wm Px Pm Dx Dm dis S hl
        · refine lv_tableIn (off := 593) (tgt := 626) fx fb zd_33 (by omega) h33 (by rw [hv]; rfl) (by decide) ?_
          exact zl_c14 F hRB o14 hL hn hN hx hm adx adm H locs ls R wx wm Px Pm Dx Dm dis S hl
        · refine lv_tableIn (off := 642) (tgt := 675) fx fb zd_33 (by omega) h33 (by rw [hv]; rfl) (by decide) ?_
          exact zl_c15 F hRB o15 hL hn hN hx hm adx adm H locs ls R wx wm Px Pm Dx Dm dis S hl
        · refine lv_tableIn (off := 655) (tgt := 688) fx fb zd_33 (by omega) h33 (by rw [hv]; rfl) (by decide) ?_
          exact zl_c16 F hRB o16 hL hn hN hx hm adx adm H locs ls R wx wm Px Pm Dx Dm dis S hl
        · refine lv_tableIn (off := 668) (tgt := 701) fx fb zd_33 (by omega) h33 (by rw [hv]; rfl) (by decide) ?_
          exact zl_c17 F hRB o17 hL hn hN hx hm adx adm H locs ls R wx wm Px Pm Dx Dm dis S hl
        · refine lv_tableIn (off := 691) (tgt := 724) fx fb zd_33 (by omega) h33 (by rw [hv]; rfl) (by decide) ?_
          exact zl_c18 F hRB o18 hL hn hN hx hm adx adm H locs ls R wx wm Px Pm Dx Dm dis S hl
        · refine lv_tableIn (off := 724) (tgt := 757) fx fb zd_33 (by omega) h33 (by rw [hv]; rfl) (by decide) ?_
          exact zl_c19 F hRB o19 hL hn hN hx hm adx adm H locs ls R wx wm Px Pm Dx Dm dis S hl
        · refine lv_tableIn (off := 757) (tgt := 790) fx fb zd_33 (by omega) h33 (by rw [hv]; rfl) (by decide) ?_
          exact zl_c20 F hRB o20 hL hn hN hx hm adx adm H locs ls R wx wm Px Pm Dx Dm dis S hl
        · refine lv_tableIn (off := 770) (tgt := 803) fx fb zd_33 (by omega) h33 (by rw [hv]; rfl) (by decide) ?_
          exact zl_c21 F hRB o21 hL hn hN hx hm adx adm H locs ls R wx wm Px Pm Dx Dm dis S hl
        · refine lv_tableIn (off := 813) (tgt := 846) fx fb zd_33 (by omega) h33 (by rw [hv]; rfl) (by decide) ?_
          exact zl_c22 F hRB o22 hL hn hN hx hm adx adm H locs ls R wx wm Px Pm Dx Dm dis S hl
        · refine lv_tableIn (off := 856) (tgt := 889) fx fb zd_33 (by omega) h33 (by rw [hv]; rfl) (by decide) ?_
          exact zl_c23 F hRB o23 hL hn hN hx hm adx adm H locs ls R wx wm Px Pm Dx Dm dis S hl
        · refine lv_tableIn (off := 899) (tgt := 932) fx fb zd_33 (by omega) h33 (by rw [hv]; rfl) (by decide) ?_
          exact zl_c24 F hRB o24 hL hn hN hx hm adx adm H locs ls R wx wm Px Pm Dx Dm dis S hl
        · refine lv_tableIn (off := 942) (tgt := 975) fx fb zd_33 (by omega) h33 (by rw [hv]; rfl) (by decide) ?_
          exact zl_c25 F hRB o25 hL hn hN hx hm adx adm H locs ls R wx wm Px Pm Dx Dm dis S hl
        · refine lv_tableIn (off := 975) (tgt := 1008) fx fb zd_33 (by omega) h33 (by rw [hv]; rfl) (by decide) ?_
          exact zl_c26 F hRB o26 hL hn hN hx hm adx adm H locs ls R wx wm Px Pm Dx Dm dis S hl
        · refine lv_tableIn (off := 988) (tgt := 1021) fx fb zd_33 (by omega) h33 (by rw [hv]; rfl) (by decide) ?_
          exact zl_c27 F hRB o27 hL hn hN hx hm adx adm H locs ls R wx wm Px Pm Dx Dm dis S hl
        · refine lv_tableIn (off := 1041) (tgt := 1074) fx fb zd_33 (by omega) h33 (by rw [hv]; rfl) (by decide) ?_
          exact zl_c28 F hRB o28 hL hn hN hx hm adx adm H locs ls R wx wm Px Pm Dx Dm dis S hl
        · refine lv_tableIn (off := 1074) (tgt := 1107) fx fb zd_33 (by omega) h33 (by rw [hv]; rfl) (by decide) ?_
          exact zl_c29 F hRB o29 hL hn hN hx hm adx adm H locs ls R wx wm Px Pm Dx Dm dis S hl
        · refine lv_tableIn (off := 1097) (tgt := 1130) fx fb zd_33 (by omega) h33 (by rw [hv]; rfl) (by decide) ?_
          exact zl_c30 F hRB o30 hL hn hN hx hm adx adm H locs ls R wx wm Px Pm Dx Dm dis S hl
        · refine lv_tableIn (off := 1172) (tgt := 1205) fx fb zd_33 (by omega) h33 (by rw [hv]; rfl) (by decide) ?_
          exact zl_c31 F hRB o31 hL hn hN hx hm adx adm H locs ls R wx wm Px Pm Dx Dm dis S hl
        · refine lv_tableIn (off := 1195) (tgt := 1228) fx fb zd_33 (by omega) h33 (by rw [hv]; rfl) (by decide) ?_
          exact zl_c32 F hRB o32 hL hn hN hx hm adx adm H locs ls R wx wm Px Pm Dx Dm dis S hl
        · refine lv_tableIn (off := 1218) (tgt := 1251) fx fb zd_33 (by omega) h33 (by rw [hv]; rfl) (by decide) ?_
          exact zl_c33 F hRB o33 hL hn hN hx hm adx adm H locs ls R wx wm Px Pm Dx Dm dis S hl
theorem zws_n (h : zH) (hw : zwf h) (ad : Nat → Nat) (a q : Nat) (h12 : a < 12) (cy : Nat → ClassId) : zws cy ad h ++ [(q, .inr (a, zfs ad (fun _ => 0) (fun _ => 0) a zno))] = zws cy (zad ad h.1.length q) (znew h a 0) := by
  refine zws_push (e := (a, 0, zno)) hw rfl (znew_ho h a 0) ?_
  rw [zce_ob (e := (a, 0, zno)) h12]
  have e1 : (znew h a 0).2.1 h.1.length = fun _ => 0 := zrI_row _ _ _
  have e2 : (znew h a 0).2.2 h.1.length = fun _ => 0 := zrJ_row _ _ _
  rw [e1, e2]
  have e3 : zfs (zad ad h.1.length q) (fun _ => 0) (fun _ => 0) a zno = zfs ad (fun _ => 0) (fun _ => 0) a zno := List.map_congr_left fun i _ => zfv_no
  dsimp only
  rw [e3]
theorem zws0 (a q : Nat) (h12 : a < 12) (cy : Nat → ClassId) : zws cy (zad id 0 q) (znew zh0 a 0) = [(q, .inr (a, zfs id (fun _ => 0) (fun _ => 0) a zno))] := (zws_n zh0 (fun i e h => by simp [zh0] at h) id a q h12 cy).symm
theorem zl_new (F : zlF p s m meth c b L xs Gd cy adK adV) {a idx N : Nat} {C : String} {T : u_T} (hc : vwCl[a]? = some (C, T, N)) (w1 : Cond.classLink R_law idx C ∈ zGT) (w2 : Cond.instantiable C N ∈ zGT) (w3 : Cond.initialized C ∈ zGT) {ws : va_W} {H : Heap} {locs : List Loc} {cells slots pc : Nat} {Q : State → Prop} {ls : Array Slot} {rest : List Value}
    (hP : va_P Gd vwCl ws H) (hD : va_D (fun q : Nat => s.heap.size ≤ q) ws) (hS : va_S (fun q : Nat => s.heap.size ≤ q) s.heap H locs) (hcells : cells + 1 ≤ room_1.cells) (hslots : slots + N ≤ room_1.slots) (hd : decode code pc = .ok (.new idx, 3))
    (kk : ∀ (q : Nat) (H1 : Heap), va_P Gd vwCl (ws ++ [(q, .inr (a, zfs id (fun _ => 0) (fun _ => 0) a zno))]) H1 → va_D (fun q : Nat => s.heap.size ≤ q) (ws ++ [(q, .inr (a, zfs id (fun _ => 0) (fun _ => 0) a zno))]) → va_S (fun q : Nat => s.heap.size ≤ q) s.heap H1 locs → W p l e room_1 s m #[Value.ref b] below meth c H1 locs (cells + 1) (slots + N) Q (F0 m (pc + 3) ls (.ref q :: rest))) : W p l e room_1 s m #[Value.ref b] below meth c H locs cells slots Q (F0 m pc ls rest) := by
  obtain ⟨fx, fb, fr, fml, fown, fts, fX, fbl, flocks, fK⟩ := id F
  obtain ⟨h12, hin, htys, hnm⟩ := zcl_ok a _ hc
  refine va_new (ci := a) (fs := zfs id (fun _ => 0) (fun _ => 0) a zno) (C := C) (T := T) (N := N) fx fb fts hin (zTy a) htys fown (fts _ w1) (fts _ w2) (fts _ w3) fK.1 hP hD hS (fun _ h => h) hc ?_ hcells hslots hd kk
  intro i hi
  rw [zcl_df a _ hc i hi]
  unfold vp_V
  rw [List.getD_eq_getElem?_getD, zfs_get (by rw [zNf_eq hc]; exact hi)]
  exact zfv_no
set_option maxHeartbeats 4000000 in
theorem zl_callI (F : zlF p s m meth c b L xs Gd cy adK adV) (j : Nat) {D : Nat} {rest : List Value} {h h2 h' : zH} {ad ad2 : Nat → Nat} {H : Heap} {locs : List Loc} {cells slots : Nat} {Q : State → Prop} {ls : Array Slot} {pc idx : Nat}
    (hS0 : zS zG D j 0 (zpad (zG j).2.2.1 (zar0 [.ref 0])) [] h = some (none, h')) (hret : (zG j).2.2.2.1 = none) (hini : (zG j).1.name = "<init>") (hDD : D ≤ 100) (hpn : plainName (zG j).1.cls = true) (hlen : (zar0 [.ref 0]).length ≤ (zG j).2.2.1) (hlt : 0 < h.1.length) (hw : zwf h)
    (w1 : Cond.methodLink R_law idx (zG j).1 ∈ zGT) (w2 : Cond.instanceMethod (zG j).1 ∈ zGT) (hcal : zcal (zG j) 0) (hm : (zG j).2.2.1 ≤ 45) (hls : ls.size = 4) (hrest : (rest.map fun v => v.category).sum ≤ 8) (hd : decode code pc = .ok (.invokespecial idx, 3))
    (hP1 : va_P Gd vwCl (zws cy ad h) H) (hP2 : va_P Gd vwCl (zws cy ad2 h2) H) (hD1 : va_D (fun q : Nat => s.heap.size ≤ q) (zws cy ad h)) (hdis : zApart (zws cy ad h) (zws cy ad2 h2)) (hS : va_S (fun q : Nat => s.heap.size ≤ q) s.heap H locs)
    (hroom : cells + (h'.1.length - h.1.length) ≤ room_1.cells ∧ slots + (zsz h'.1 - zsz h.1) ≤ room_1.slots)
    (kk : h.1.length ≤ h'.1.length → zsz h.1 ≤ zsz h'.1 → ∀ (ad' : Nat → Nat) (H1 : Heap) (locs1 : List Loc), (∀ i, i < h.1.length → ad' i = ad i) → va_P Gd vwCl (zws cy ad' h') H1 → va_P Gd vwCl (zws cy ad2 h2) H1 → va_D (fun q : Nat => s.heap.size ≤ q) (zws cy ad' h') → zApart (zws cy ad' h') (zws cy ad2 h2) → zwf h' → va_S (fun q : Nat => s.heap.size ≤ q) s.heap H1 locs1 →
      W p l e room_1 s m #[Value.ref b] below meth c H1 locs1 (cells + (h'.1.length - h.1.length)) (slots + (zsz h'.1 - zsz h.1)) Q (F0 m (pc + 3) ls rest)) :
    W p l e room_1 s m #[Value.ref b] below meth c H locs cells slots Q (F0 m pc ls (.ref (ad 0) :: rest)) := by
  obtain ⟨fx, fb, fr, fml, fown, fts, fX, fbl, flocks, fK⟩ := id F
  have hAt := zsnd l _ _ _ _ _ _ _ hS0
  refine zl_call (R := R_law) (as := []) rfl fx fb fml fown fts fK hAt hpn hlen (fun v hv => absurd hv List.not_mem_nil) hlt hw hP1 hP2 hD1 hdis hS ?_ (kk hAt.1.1 hAt.1.2)
  intro hM hpre
  rw [hret] at hM
  have hg := hcal.1
  rw [hret] at hg
  exact va_runI (As := []) ⟨fx, fb, fml, fown, fts⟩ hM (cwI 0 fts (zgoodGT hg) rfl rfl rfl (fts _ hcal.2.1) (fts _ w1) (fts _ w2) hini hcal.2.2 (zroom_1 hDD hm)) ⟨zPc_blind, hpre⟩ rfl rfl hls rfl (lv_room hrest) hd hroom
theorem zApart0 {cy : Nat → ClassId} {ad : Nat → Nat} {w : va_W} : zApart w (zws cy ad zh0) := fun i j p q hp hq => by simp [zws, zh0] at hq
theorem zP0 {cy : Nat → ClassId} {ad : Nat → Nat} {H : Heap} : va_P Gd vwCl (zws cy ad zh0) H := fun k q h => by simp [zws, zh0] at h
theorem zsub_l {ws vs : va_W} {H : Heap} (h : va_P Gd vwCl (ws ++ vs) H) : va_P Gd vwCl ws H := fun k q hq => h k q (by rw [List.getElem?_append_left (List.getElem?_eq_some_iff.mp hq).1]; exact hq)
theorem zsub_r {ws vs : va_W} {H : Heap} (h : va_P Gd vwCl (ws ++ vs) H) : va_P Gd vwCl vs H := fun k q hq => h (ws.length + k) q (by rw [List.getElem?_append_right (by omega), Nat.add_sub_cancel_left]; exact hq)
theorem zDub_l {A : Nat → Prop} {ws vs : va_W} (h : va_D A (ws ++ vs)) : va_D A ws := ⟨fun i j p q hp hq e => h.1 i j p q (by rw [List.getElem?_append_left (List.getElem?_eq_some_iff.mp hp).1]; exact hp) (by rw [List.getElem?_append_left (List.getElem?_eq_some_iff.mp hq).1]; exact hq) e, fun k q hq => h.2 k q (by rw [List.getElem?_append_left (List.getElem?_eq_some_iff.mp hq).1]; exact hq)⟩
theorem zDub_r {A : Nat → Prop} {ws vs : va_W} (h : va_D A (ws ++ vs)) : va_D A vs := ⟨fun i j p q hp hq e => by
  have := h.1 (ws.length + i) (ws.length + j) p q (by rw [List.getElem?_append_right (by omega), Nat.add_sub_cancel_left]; exact hp) (by rw [List.getElem?_append_right (by omega), Nat.add_sub_cancel_left]; exact hq) e
  omega, fun k q hq => h.2 (ws.length + k) q (by rw [List.getElem?_append_right (by omega), Nat.add_sub_cancel_left]; exact hq)⟩
theorem zDub_a {A : Nat → Prop} {ws vs : va_W} (h : va_D A (ws ++ vs)) : zApart ws vs := fun i j p q hp hq e => by
  have hl := (List.getElem?_eq_some_iff.mp hp).1
  have := h.1 i (ws.length + j) p q (by rw [List.getElem?_append_left hl]; exact hp) (by rw [List.getElem?_append_right (by omega), Nat.add_sub_cancel_left]; exact hq) e
  omega
set_option maxHeartbeats 4000000 in
/-- THE LAW out of pure runs -/
theorem zl_start (l : Launch) (hL : L ≤ 3584) (C0 : lw_At p s m meth c b L xs) (hRB : zRBr Rel) (hO : zOps Rel) {hx1 hm1 : zH} (ex : zS zG 3 114 0 (zpad (zG 114).2.2.1 (zar0 [.ref 0])) [] (znew zh0 10 0) = some (none, hx1)) (em : zS zG 1 154 0 (zpad (zG 154).2.2.1 (zar0 [.ref 0])) [] (znew zh0 11 0) = some (none, hm1)) (R : Rel 0 hx1 hm1) :
    W p l e room_1 s m #[Value.ref b] below meth c s.heap [] 0 0 (lw_Z below #[Value.ref b] s) (entryFrame m ([Value.ref b] : List Value).toArray 4) := by
  obtain ⟨fx, fb, fr, fml, fown, hts, fX, fbl, flocks, fgv⟩ := id C0
  have fts := zGT_hts hts
  obtain ⟨Gd, cy, adK, adV, fK⟩ := zKK_start hts fgv
  have F : zlF p s m meth c b L xs Gd cy adK adV := ⟨fx, fb, fr, fml, fown, fts, fX, fbl, flocks, fK⟩
  obtain ⟨hB1, hB2⟩ := (hRB _ _ _ R).1 (by omega)
  have bx := (zsnd l _ _ _ _ _ _ _ ex).1
  have bm := (zsnd l _ _ _ _ _ _ _ em).1
  dsimp only at bx bm
  have nx : (znew zh0 10 0).1.length = 1 := rfl
  have nm : (znew zh0 11 0).1.length = 1 := rfl
  have sx : zsz (znew zh0 10 0).1 = 17 := by decide +kernel
  have sm : zsz (znew zh0 11 0).1 = 39 := by decide +kernel
  have hS : va_S (fun q : Nat => s.heap.size ≤ q) s.heap s.heap [] := va_S.rf
  have hl := lv_entry ([.ref b]) (n := 4) (Nat.le_of_ble_eq_true rfl)
  rw [lg_entry_eq]
  generalize (lg_sl ([.ref b]) ++ List.replicate (4 - (lg_sl ([.ref b])).length) Slot.unset).toArray = ls at hl ⊢
  have hl : lv_has ls 4 [(0, .ref b)] := hl
  refine zl_new F (a := 10) (ws := []) rfl (zGT_mem 163 (by decide +kernel) (by decide +kernel)) (zGT_mem 164 (by decide +kernel) (by decide +kernel)) (zGT_mem 143 (by decide +kernel) (by decide +kernel)) (fun k q h => by simp at h) ⟨fun i j p q h => by simp at h, fun k q h => by simp at h⟩ hS (by decide) (by decide) zd_0 (fun q0 H hP hD hS => ?_)
  rw [List.nil_append] at hP hD
  rw [← zws0 10 q0 (by decide) cy] at hP hD
  refine lv_dup fx fb zd_3 rfl ?_
  refine zl_callI F 114 (rest := [.ref q0]) (h := znew zh0 10 0) (h2 := zh0) (ad := zad id 0 q0) (ad2 := id) ex rfl rfl (by decide) (by decide +kernel) (Nat.le_of_ble_eq_true rfl) (by decide) (zwf_new (fun i e h => by simp [zh0] at h)) (zGT_mem 165 (by decide +kernel) (by decide +kernel)) (zGT_mem 166 (by decide +kernel) (by decide +kernel)) ⟨zGT_mem 167 (by decide +kernel) (by decide +kernel), zGT_mem 143 (by decide +kernel) (by decide +kernel), by decide +kernel⟩ (by decide) hl.1 (Nat.le_of_ble_eq_true rfl) zd_4 hP zP0 hD zApart0 hS ⟨by have zr := zroom; show _ ≤ room_1.cells; omega, by have zr := zroom; show _ ≤ room_1.slots; omega⟩ ?_
  intro _ _ adx H1 locs1 ea Px _ Dx _ wx hS1
  have hq0 : adx 0 = q0 := by rw [ea 0 (by decide)]; rfl
  refine lv_astore_n (lv' := [(1, .ref q0), (0, .ref b)]) fx fb zd_7 rfl hl (by decide) rfl (fun ls hl => ?_)
  refine zl_new F (a := 11) (ws := zws cy adx hx1) rfl (zGT_mem 1412 (by decide +kernel) (by decide +kernel)) (zGT_mem 1413 (by decide +kernel) (by decide +kernel)) (zGT_mem 154 (by decide +kernel) (by decide +kernel)) Px Dx hS1 (by have zr := zroom; show _ ≤ room_1.cells; omega) (by have zr := zroom; show _ ≤ room_1.slots; omega) zd_8 (fun q1 H2 hP2 hD2 hS2 => ?_)
  rw [← zws0 11 q1 (by decide) cy] at hP2 hD2
  refine lv_dup fx fb zd_11 rfl ?_
  refine zl_callI F 154 (rest := [.ref q1]) (h := znew zh0 11 0) (h2 := hx1) (ad := zad id 0 q1) (ad2 := adx) em rfl rfl (by decide) (by decide +kernel) (Nat.le_of_ble_eq_true rfl) (by decide) (zwf_new (fun i e h => by simp [zh0] at h)) (zGT_mem 1414 (by decide +kernel) (by decide +kernel)) (zGT_mem 1415 (by decide +kernel) (by decide +kernel)) ⟨zGT_mem 1416 (by decide +kernel) (by decide +kernel), zGT_mem 154 (by decide +kernel) (by decide +kernel), by decide +kernel⟩ (by decide) hl.1 (Nat.le_of_ble_eq_true rfl) zd_12 (zsub_r hP2) (zsub_l hP2) (zDub_r hD2) (zDub_a hD2).sym hS2 ⟨by have zr := zroom; show _ ≤ room_1.cells; omega, by have zr := zroom; show _ ≤ room_1.slots; omega⟩ ?_
  intro _ _ adm H3 locs3 eb Pm Px3 Dm dis wm hS3
  have hq1 : adm 0 = q1 := by rw [eb 0 (by decide)]; rfl
  refine lv_astore_n (lv' := [(2, .ref q1), (1, .ref q0), (0, .ref b)]) fx fb zd_15 rfl hl (by decide) rfl (fun ls hl => ?_)
  refine lv_iconst (v := 0) fx fb zd_16 (by decide) ?_
  refine lv_istore_n (lv' := [(3, .int 0), (2, .ref q1), (1, .ref q0), (0, .ref b)]) fx fb zd_17 rfl hl (by decide) rfl (fun ls hl => ?_)
  refine zW_eq (zl_loop F hRB hO hL (L + 1) 0 (by omega) (by omega) hx1 hm1 adx adm H3 locs3 ls R wx wm Px3 Pm Dx Dm dis.sym hS3 ?_) (by omega) (by omega)
  rw [hq0, hq1]
  exact lv_sub hl [3, 2, 1, 0] rfl
end zlaw2
