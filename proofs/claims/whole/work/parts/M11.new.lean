/-! ===== new cells; ends ===== -/
def zclDF : Prop := ∀ (c : Nat) (r : vw_C), vwCl[c]? = some r → ∀ k, k < r.2.2 → defaultValue (zTy c k) = zfv id (fun _ => 0) (fun _ => 0) zno (zTy c k) k
theorem zfv_no {ad ad' : Nat → Nat} {I : Nat → Int32} {J : Nat → Int64} {ty : FieldType} {k : Nat} : zfv ad I J zno ty k = zfv ad' I J zno ty k := by
  unfold zfv; split <;> rfl
section znew
variable {G : Nat → zM} {l : Launch} {S : zO} {D j : Nat} {k : zKt} {L : zL} {st : List Value} {h : zH} {res : zR}
theorem zAt_new {pc pc' : Nat} {t : List Value} {e0 : zE} {h' : zH} (hk : zAt G l D j pc' L (.ref h.1.length :: t) h' res) (h1 : h'.1 = h.1 ++ [e0]) (ho : ∀ j, j < h.1.length → h'.2.1 j = h.2.1 j ∧ h'.2.2 j = h.2.2 j) (hwf : zwf h → zwf h') (hv : ∀ n, (∀ v ∈ st, zvv n v) → ∀ v ∈ t, zvv n v)
    (hrow : ∀ (p : Program) (e : Env) (R : Room) (s : State) (m : MethodId) (args : Array Value) (below : List Frame) (meth : Method) (c : Code) (H : Heap) (locs : List Loc) (cells slots : Nat) (Q : State → Prop) (ls : Array Slot) (A : Nat → Prop) (Gd : va_G) (cy : Nat → ClassId) (ad adK adV : Nat → Nat), zC (G j) D p R s m args meth c A Gd cy adK adV → va_P Gd vwCl (zws cy ad h) H → va_D A (zws cy ad h) → va_S A s.heap H locs → ls.size = (G j).2.2.1 → cells + 1 ≤ R.cells → slots + zsc e0 ≤ R.slots →
      (∀ (q : Nat) (H1 : Heap), va_P Gd vwCl (zws cy ad h ++ [(q, zce cy (zad ad h.1.length q) (h'.2.1 h.1.length) (h'.2.2 h.1.length) e0)]) H1 → va_D A (zws cy ad h ++ [(q, zce cy (zad ad h.1.length q) (h'.2.1 h.1.length) (h'.2.2 h.1.length) e0)]) → va_S A s.heap H1 locs → W p l e R s m args below meth c H1 locs (cells + 1) (slots + zsc e0) Q (F0 m pc' ls (.ref q :: t.map (ztr ad adK)))) → W p l e R s m args below meth c H locs cells slots Q (F0 m pc ls (st.map (ztr ad adK)))) : zAt G l D j pc L st h res := by
  have hlen : h'.1.length = h.1.length + 1 := by rw [h1]; simp
  have hsz : zsz h'.1 = zsz h.1 + zsc e0 := by rw [h1]; exact zsz_push _ _
  obtain ⟨hm1, hm2⟩ := hk.1
  refine ⟨⟨by omega, by omega⟩, ?_⟩
  intro p e R s m args below meth c A Gd cy adK adV ad0 n0 z0 Cx hn hz hcc hss ad H locs ls ha0 hP hD hS hl hw hvL hvS
  refine hrow p e R s m args below meth c H locs _ _ _ ls A Gd cy ad adK adV Cx hP hD hS hl.1 (by rw [hcc]; omega) (by rw [hss]; omega) fun q H1 hP1 hD1 hS1 => ?_
  rw [zws_push hw h1 ho rfl] at hP1 hD1
  have hext : ∀ i, i < h.1.length → zad ad h.1.length q i = ad i := fun i hi => zad_lt hi
  have := hk.2 p e R s m args below meth c A Gd cy adK adV ad0 n0 z0 Cx (by omega) (by omega) hcc hss (zad ad h.1.length q) H1 locs ls (fun i hi => by rw [hext i (by omega)]; exact ha0 i hi) hP1 hD1 hS1 (zhas_ext hl hext hvL) (hwf hw) (fun i v q => zvv_le (hvL i v q) (by omega)) (zvS_cons (zvv_r (by omega)) (fun v q => zvv_le (hv _ hvS v q) (by omega)))
  rw [show h'.1.length - n0 = h.1.length - n0 + 1 by omega, show zsz h'.1 - z0 = zsz h.1 - z0 + zsc e0 by omega] at this
  have hst : (Value.ref h.1.length :: t).map (ztr (zad ad h.1.length q) adK) = .ref q :: t.map (ztr ad adK) := by
    rw [List.map_cons, zmtr_ext hext (hv _ hvS)]
    show Value.ref (zad ad h.1.length q h.1.length) :: _ = _
    rw [zad_n]
  rw [hst] at this
  exact this
theorem znew_ho (h : zH) (kd n : Nat) : ∀ j, j < h.1.length → (znew h kd n).2.1 j = h.2.1 j ∧ (znew h kd n).2.2 j = h.2.2 j := fun j hj => ⟨zrI_ne _ _ (by omega), zrJ_ne _ _ (by omega)⟩
theorem zin_100k {n : Int32} (h : zin n 100000 = true) : ¬ n < 0 ∧ n.toNatClampNeg < 100000 := by
  obtain ⟨h1, h2⟩ := vp_in_iff.mp (zin_vp h)
  refine ⟨fun q => ?_, ?_⟩
  · have := Int32.lt_iff_toInt_lt.mp q
    simp at this
    omega
  · show n.toInt.toNat < 100000
    omega
set_option maxHeartbeats 4000000 in
theorem zstep_new (hcl : zclOK) (hdf : zclDF) (IHk : ∀ pc L st h r, k pc L st h = some r → zAt G l D j pc L st h r) (harr : ∀ ty ∈ [FieldType.byte, .int, .long, .boolean], Cond.arrayClass ty ∈ zGT) {e : zI} (he : zok G (G j) e)
    (hns : match e.2.1 with
      | .new _ => True | .newarray _ => True | .anewarray _ => True | _ => False)
    (hs : zstep G S D e k L st h = some res) : zAt G l D j e.1 L st h res := by
  obtain ⟨pc, ins, a, b, ks, z, zl, sw⟩ := e
  obtain ⟨hd, hlk⟩ := he
  cases ins <;> first | (exact absurd hns id; done) | skip
  all_goals (unfold zstep at hs; dsimp only at hs)
  all_goals (replace hd := hd.resolve_left (by intro q; cases q); dsimp only [zln] at hd; dsimp only [zlk] at hlk)
  case new =>
    obtain ⟨ha, hs1⟩ := zi_zif hs
    obtain ⟨C, T, N, hc, h1, h2, h3⟩ := hlk
    obtain ⟨h12, hin, htys, hnm⟩ := hcl a _ hc
    have hN := zNf_eq hc
    refine zAt_new (IHk _ _ _ _ _ hs1) rfl (znew_ho h a 0) zwf_new (fun n h => h) ?_
    intro p e R s m args below meth c H locs cells slots Q ls A Gd cy ad adK adV Cx hP hD hS hsz0 hcells hslots kk
    have hts := Cx.2.2.2.2.2.1
    have hsc : zsc (a, 0, zno) = N := by unfold zsc; rw [if_pos h12]; exact hN
    rw [hsc] at hslots kk
    refine va_new (ci := a) (fs := zfs ad (fun _ => 0) (fun _ => 0) a zno) (C := C) (T := T) (N := N) Cx.1 Cx.2.1 hts hin (zTy a) htys Cx.2.2.2.2.1 (hts _ h1) (hts _ h2) (hts _ h3) Cx.2.2.2.2.2.2.2.2.1.1 hP hD hS Cx.2.2.2.2.2.2.2.2.2.1 hc ?_ hcells hslots hd fun q H1 hP1 hD1 hS1 => kk q H1 ?_ ?_ hS1
    · intro i hi
      rw [hdf a _ hc i hi]
      unfold vp_V
      rw [List.getD_eq_getElem?_getD, zfs_get (by rw [hN]; exact hi)]
      exact zfv_no
    · rw [zce_ob (e := (a, 0, zno)) h12]
      have e1 : (znew h a 0).2.1 h.1.length = fun _ => 0 := zrI_row _ _ _
      have e2 : (znew h a 0).2.2 h.1.length = fun _ => 0 := zrJ_row _ _ _
      rw [e1, e2]
      have e3 : zfs (zad ad h.1.length q) (fun _ => 0) (fun _ => 0) a zno = zfs ad (fun _ => 0) (fun _ => 0) a zno := List.map_congr_left fun i _ => zfv_no
      dsimp only
      rw [e3]
      exact hP1
    · rw [zce_ob (e := (a, 0, zno)) h12]
      have e1 : (znew h a 0).2.1 h.1.length = fun _ => 0 := zrI_row _ _ _
      have e2 : (znew h a 0).2.2 h.1.length = fun _ => 0 := zrJ_row _ _ _
      rw [e1, e2]
      have e3 : zfs (zad ad h.1.length q) (fun _ => 0) (fun _ => 0) a zno = zfs ad (fun _ => 0) (fun _ => 0) a zno := List.map_congr_left fun i _ => zfv_no
      dsimp only
      rw [e3]
      exact hD1
  case newarray =>
    obtain ⟨n, t, rfl, hs1⟩ := zi_I1 hs
    obtain ⟨hk4, hs1⟩ := zi_zif hs1
    obtain ⟨hn, hs1⟩ := zi_zif hs1
    obtain ⟨hn0, hn1⟩ := zin_100k hn
    refine zAt_new (IHk _ _ _ _ _ hs1) rfl (znew_ho h a _) zwf_new (fun n h => zvS_tl h) ?_
    intro p e R s m args below meth c H locs cells slots Q ls A Gd cy ad adK adV Cx hP hD hS hsz0 hcells hslots kk
    have hts := Cx.2.2.2.2.2.1
    have hK := Cx.2.2.2.2.2.2.2.2.1.1
    have e1 : (znew h a n.toNatClampNeg).2.1 h.1.length = fun _ => 0 := zrI_row _ _ _
    have e2 : (znew h a n.toNatClampNeg).2.2 h.1.length = fun _ => 0 := zrJ_row _ _ _
    rw [e1, e2] at kk
    rcases hlk with ⟨rfl, rfl⟩ | ⟨rfl, rfl⟩ | ⟨rfl, rfl⟩ | ⟨rfl, rfl⟩
    · refine va_newa (atype := .byte) (ty := .byte) (a0 := (n.toNatClampNeg, .inl (fun _ => 0))) Cx.1 Cx.2.1 (hts _ (harr .byte (by simp))) rfl hK hP hD hS Cx.2.2.2.2.2.2.2.2.2.1 (fun _ => rfl) hn0 rfl (by show _ * 1 ≤ _; omega) hcells hslots hd fun q cA H1 hK1 hP1 hD1 hS1 => ?_
      have : cA = cy 0 := Option.some.inj (((hK1.2 6 _ rfl).2 : s.vm.findClass ("[" ++ FieldType.byte.toString) = some cA).symm.trans (hK.2 0 _ rfl).2)
      subst this
      exact kk q H1 hP1 hD1 hS1
    · refine va_newa (atype := .int) (ty := .int) (a0 := (n.toNatClampNeg, .inl (fun _ => 0))) Cx.1 Cx.2.1 (hts _ (harr .int (by simp))) rfl hK hP hD hS Cx.2.2.2.2.2.2.2.2.2.1 (fun _ => rfl) hn0 rfl (by show _ * 4 ≤ _; omega) hcells hslots hd fun q cA H1 hK1 hP1 hD1 hS1 => ?_
      have : cA = cy 1 := Option.some.inj (((hK1.2 6 _ rfl).2 : s.vm.findClass ("[" ++ FieldType.int.toString) = some cA).symm.trans (hK.2 1 _ rfl).2)
      subst this
      exact kk q H1 hP1 hD1 hS1
    · refine va_newa (atype := .long) (ty := .long) (a0 := (n.toNatClampNeg, .inr (.inl (fun _ => 0)))) Cx.1 Cx.2.1 (hts _ (harr .long (by simp))) rfl hK hP hD hS Cx.2.2.2.2.2.2.2.2.2.1 (fun _ => rfl) hn0 rfl (by show _ * 8 ≤ _; omega) hcells hslots hd fun q cA H1 hK1 hP1 hD1 hS1 => ?_
      have : cA = cy 2 := Option.some.inj (((hK1.2 6 _ rfl).2 : s.vm.findClass ("[" ++ FieldType.long.toString) = some cA).symm.trans (hK.2 2 _ rfl).2)
      subst this
      exact kk q H1 hP1 hD1 hS1
    · refine va_newa (atype := .boolean) (ty := .boolean) (a0 := (n.toNatClampNeg, .inl (fun _ => 0))) Cx.1 Cx.2.1 (hts _ (harr .boolean (by simp))) rfl hK hP hD hS Cx.2.2.2.2.2.2.2.2.2.1 (fun _ => rfl) hn0 rfl (by show _ * 1 ≤ _; omega) hcells hslots hd fun q cA H1 hK1 hP1 hD1 hS1 => ?_
      have : cA = cy 3 := Option.some.inj (((hK1.2 6 _ rfl).2 : s.vm.findClass ("[" ++ FieldType.boolean.toString) = some cA).symm.trans (hK.2 3 _ rfl).2)
      subst this
      exact kk q H1 hP1 hD1 hS1
  case anewarray =>
    obtain ⟨n, t, rfl, hs1⟩ := zi_I1 hs
    obtain ⟨hk4, hs1⟩ := zi_zif hs1
    obtain ⟨hn, hs1⟩ := zi_zif hs1
    obtain ⟨hn0, hn1⟩ := zin_100k hn
    refine zAt_new (IHk _ _ _ _ _ hs1) rfl (znew_ho h a _) zwf_new (fun n h => zvS_tl h) ?_
    intro p e R s m args below meth c H locs cells slots Q ls A Gd cy ad adK adV Cx hP hD hS hsz0 hcells hslots kk
    have hts := Cx.2.2.2.2.2.1
    have hK := Cx.2.2.2.2.2.2.2.2.1.1
    have hNN := Cx.2.2.2.2.2.2.2.2.1.2.1
    rcases hlk with ⟨rfl, hl⟩ | ⟨rfl, hl⟩
    · refine va_newq (C := RX7) Cx.1 Cx.2.1 Cx.2.2.2.2.1 (hts _ hl) hNN.2.2.1 hK hP hD hS Cx.2.2.2.2.2.2.2.2.2.1 hn0 rfl (by omega) hcells hslots hd fun q cA H1 hK1 hP1 hD1 hS1 => ?_
      have : cA = cy 4 := by
        obtain ⟨_, _, _, _, _, f1⟩ := (hK1.2 6 _ rfl).2
        obtain ⟨_, _, _, _, _, f2⟩ := (hK.2 4 _ rfl).2
        exact Option.some.inj (f1.symm.trans f2)
      subst this
      exact kk q H1 hP1 hD1 hS1
    · refine va_newq (C := RX10) Cx.1 Cx.2.1 Cx.2.2.2.2.1 (hts _ hl) hNN.2.2.2 hK hP hD hS Cx.2.2.2.2.2.2.2.2.2.1 hn0 rfl (by omega) hcells hslots hd fun q cA H1 hK1 hP1 hD1 hS1 => ?_
      have : cA = cy 5 := by
        obtain ⟨_, _, _, _, _, f1⟩ := (hK1.2 6 _ rfl).2
        obtain ⟨_, _, _, _, _, f2⟩ := (hK.2 5 _ rfl).2
        exact Option.some.inj (f1.symm.trans f2)
      subst this
      exact kk q H1 hP1 hD1 hS1
set_option maxHeartbeats 4000000 in
/-- ends and switches -/
theorem zstep_ret (IHk : ∀ pc L st h r, k pc L st h = some r → zAt G l D j pc L st h r) {e : zI} (he : zok G (G j) e)
    (hns : match e.2.1 with
      | .ireturn => True | .lreturn => True | .areturn => True | .return_ => True | .tableswitch _ _ _ _ => True | _ => False)
    (hs : zstep G S D e k L st h = some res) : zAt G l D j e.1 L st h res := by
  obtain ⟨pc, ins, a, b, ks, z, zl, sw⟩ := e
  obtain ⟨hd, hlk⟩ := he
  cases ins <;> first | (exact absurd hns id; done) | skip
  all_goals (unfold zstep at hs; dsimp only at hs)
  case tableswitch d lo hi offs =>
    dsimp only [zlk] at hlk
    obtain ⟨⟨n, hd⟩, ht, hhi, hsw⟩ := hlk
    obtain ⟨x, t, rfl, hs1⟩ := zi_I1 hs
    have key : ∀ (sw : List (Int32 × Nat)) (base : Nat), hi = lo + (base : Int) + (sw.length : Int) - 1 → (∀ (i : Nat) (q : Int32 × Nat), sw[i]? = some q → q.1.toInt = lo + (base : Int) + (i : Int) ∧ ∃ o, offs[base + i]? = some o ∧ (pc : Int) + o = (q.2 : Int)) → (∀ i : Nat, i < base → ¬ x.toInt = lo + (i : Int)) →
        zswi x sw a (fun t' => k t' L t h) = some res → ∃ tgt : Nat, k tgt L t h = some res ∧ ((x.toInt < lo ∨ hi < x.toInt) ∧ (pc : Int) + d = (tgt : Int) ∨ (¬ x.toInt < lo ∧ ¬ hi < x.toInt ∧ ∃ o, offs[(x.toInt - lo).toNat]? = some o ∧ (pc : Int) + o = (tgt : Int))) := by
      intro sw
      induction sw with
      | nil =>
        intro base hh _ hne hz
        refine ⟨a, hz, Or.inl ⟨?_, ht⟩⟩
        by_cases q : x.toInt < lo
        · exact Or.inl q
        · refine Or.inr ?_
          simp only [List.length_nil] at hh
          by_cases q2 : hi < x.toInt
          · exact q2
          · exact absurd (show x.toInt = lo + (((x.toInt - lo).toNat : Nat) : Int) by omega) (hne _ (by omega))
      | cons c r ih =>
        intro base hh hq hne hz
        obtain ⟨c, tg⟩ := c
        obtain ⟨g1, o, g2, g3⟩ := hq 0 _ rfl
        unfold zswi at hz
        dsimp only at g1 g3
        simp only [List.length_cons] at hh
        split at hz
        · rename_i hx
          subst hx
          refine ⟨tg, hz, Or.inr ⟨by omega, by omega, o, ?_, g3⟩⟩
          rw [show (x.toInt - lo).toNat = base + 0 by omega]; exact g2
        · rename_i hx
          refine ih (base + 1) (by omega) (fun i q hi2 => ?_) (fun i hi2 => ?_) hz
          · obtain ⟨f1, o2, f2, f3⟩ := hq (i + 1) q (by simpa using hi2)
            exact ⟨by rw [f1]; omega, o2, by rw [show base + 1 + i = base + (i + 1) by omega]; exact f2, f3⟩
          · by_cases hb : i < base
            · exact hne i hb
            · intro q
              exact hx (Int32.toInt_inj.mp (by rw [g1, q]; omega))
    obtain ⟨tgt, hs2, hcase⟩ := key sw 0 (by omega) (fun i q hq => by obtain ⟨f1, o, f2, f3⟩ := hsw i q hq; exact ⟨by rw [f1]; omega, o, by rw [Nat.zero_add]; exact f2, f3⟩) (fun i hi2 => by omega) hs1
    refine zAt_row (IHk _ _ _ _ _ hs2) (fun n _ h => zvS_tl h) (fun p e R s m args below meth c H locs cells slots Q ls ad adK hx hb hown hts _ hl kk => ?_)
    rcases hcase with ⟨c1, c2⟩ | ⟨c1, c2, o, c3, c4⟩
    · exact lv_tableOut hx hb hd c1 c2 kk
    · exact lv_tableIn hx hb hd c1 c2 c3 c4 kk
  all_goals (replace hd := hd.resolve_left (by intro q; cases q); dsimp only [zln] at hd; dsimp only [zlk] at hlk)
  case ireturn =>
    split at hs
    · rename_i v
      have hr : res = (some (.int v), h) ∧ ((G j).2.2.2.1 = some .int ∨ ((G j).2.2.2.1 = some .boolean ∧ zbo v = true)) := by
        split at hs
        · obtain ⟨hz, hs⟩ := zi_zif hs
          exact ⟨(Option.some.inj hs).symm, Or.inr ⟨hlk, hz⟩⟩
        · rename_i hb3
          refine ⟨(Option.some.inj hs).symm, Or.inl ?_⟩
          split at hlk
          · exact absurd rfl hb3
          · exact hlk
      obtain ⟨rfl, hr⟩ := hr
      refine ⟨⟨Nat.le_refl _, Nat.le_refl _⟩, ?_⟩
      intro p e R s m args below meth c A Gd cy adK adV ad0 n0 z0 Cx hn hz hcc hss ad H locs ls ha0 hP hD hS hl hw hvL hvS
      have hq : ∀ t : State, t.heap = H → s.WarmedH t.vm → zQ Gd cy adK n0 ad0 A (some (.int v)) h args s (.returned (some (.int v))) t := fun t ht hW => ⟨⟨ad, ha0, rfl, by rw [ht]; exact hP, hD, hw, fun w hw => by cases hw; exact zvv_i⟩, hS.F ht⟩
      rcases hr with hr | ⟨hr, hz2⟩
      · exact W.iret Cx.1 Cx.2.1 (Cx.2.2.1.trans hr) hq hS.2.2 hd Cx.2.2.2.2.2.2.1
      · exact W.zret (ty := .boolean) Cx.1 Cx.2.1 (Cx.2.2.1.trans hr) (zbo_fits hz2).1 hq hS.2.2 hd Cx.2.2.2.2.2.2.1
    · cases hs
  case lreturn =>
    split at hs
    · rename_i v
      have hr := (Option.some.inj hs).symm
      subst hr
      refine ⟨⟨Nat.le_refl _, Nat.le_refl _⟩, ?_⟩
      intro p e R s m args below meth c A Gd cy adK adV ad0 n0 z0 Cx hn hz hcc hss ad H locs ls ha0 hP hD hS hl hw hvL hvS
      exact W.lret Cx.1 Cx.2.1 (Cx.2.2.1.trans hlk) (fun t ht hW => ⟨⟨ad, ha0, rfl, by rw [ht]; exact hP, hD, hw, fun w hw => by cases hw; exact zvv_l⟩, hS.F ht⟩) hS.2.2 hd Cx.2.2.2.2.2.2.1
    · cases hs
  case areturn =>
    split at hs
    · rename_i v
      have hr := (Option.some.inj hs).symm
      subst hr
      refine ⟨⟨Nat.le_refl _, Nat.le_refl _⟩, ?_⟩
      intro p e R s m args below meth c A Gd cy adK adV ad0 n0 z0 Cx hn hz hcc hss ad H locs ls ha0 hP hD hS hl hw hvL hvS
      have hq : ∀ t : State, t.heap = H → s.WarmedH t.vm → zQ Gd cy adK n0 ad0 A (some (.ref v)) h args s (.returned (some (.ref (ad v)))) t := fun t ht hW => ⟨⟨ad, ha0, rfl, by rw [ht]; exact hP, hD, hw, fun w hw => by cases hw; exact zvS_hd hvS⟩, hS.F ht⟩
      rcases hlk with ⟨n, hn⟩ | ⟨n, hn⟩
      · exact W.aret Cx.1 Cx.2.1 (Cx.2.2.1.trans hn) (Or.inl ⟨_, rfl⟩) (Or.inr ⟨_, rfl⟩) hq hS.2.2 hd Cx.2.2.2.2.2.2.1
      · exact W.aret Cx.1 Cx.2.1 (Cx.2.2.1.trans hn) (Or.inr ⟨_, rfl⟩) (Or.inr ⟨_, rfl⟩) hq hS.2.2 hd Cx.2.2.2.2.2.2.1
    · cases hs
  case return_ =>
    split at hs
    · have hr := (Option.some.inj hs).symm
      subst hr
      refine ⟨⟨Nat.le_refl _, Nat.le_refl _⟩, ?_⟩
      intro p e R s m args below meth c A Gd cy adK adV ad0 n0 z0 Cx hn hz hcc hss ad H locs ls ha0 hP hD hS hl hw hvL hvS
      exact W.vret Cx.1 Cx.2.1 (Cx.2.2.1.trans hlk) (fun t ht hW => ⟨⟨ad, ha0, rfl, by rw [ht]; exact hP, hD, hw, fun w hw => by cases hw⟩, hS.F ht⟩) hS.2.2 hd Cx.2.2.2.2.2.2.1
    · cases hs
end znew
