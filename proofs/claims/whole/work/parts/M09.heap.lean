/-! ===== rows that read or write the heap ===== -/
def zclOK : Prop := ∀ (c : Nat) (r : vw_C), vwCl[c]? = some r → c < 12 ∧ (∀ w ∈ u_ws r.1 r.2.1 r.2.2, w ∈ zGT) ∧ (∀ k, k < r.2.2 → parseFieldDescriptor (r.2.1 k).2.2.1 = some (zTy c k)) ∧ (∀ a, a < r.2.2 → ∀ b, b < r.2.2 → a ≠ b → (r.2.1 a).2.1 ≠ (r.2.1 b).2.1)
theorem zNf_eq {c : Nat} {r : vw_C} (h : vwCl[c]? = some r) : zNf c = r.2.2 := by unfold zNf; rw [h]
theorem zce_ob {cy : Nat → ClassId} {ad : Nat → Nat} {I : Nat → Int32} {J : Nat → Int64} {e : zE} (h : e.1 < 12) : zce cy ad I J e = .inr (e.1, zfs ad I J e.1 e.2.2) := by
  unfold zce; split <;> first | omega | rfl
theorem zhas1_mem : ∀ {l : List Nat} {k : Nat}, zhas1 l k = true → k ∈ l
  | [], _, h => by cases h
  | a :: l, k, h => by
    unfold zhas1 at h
    by_cases e : a = k
    · subst e; exact List.mem_cons_self
    · have hb : Nat.beq a k = false := by
        cases hq : Nat.beq a k
        · rfl
        · exact absurd (Nat.eq_of_beq_eq_true hq) e
      rw [hb] at h
      exact List.mem_cons_of_mem _ (zhas1_mem h)
theorem zmap_set {N a : Nat} {f f' : Nat → Value} {v : Value} (ha : a < N) (h1 : f' a = v) (h2 : ∀ k, k ≠ a → f' k = f k) : ((List.range N).map f).set a v = (List.range N).map f' := by
  apply List.ext_getElem?
  intro j
  by_cases hj : j < N
  · by_cases e : j = a
    · subst e
      rw [List.getElem?_set_self (by simpa using hj)]
      simp [List.getElem?_map, List.getElem?_range hj, h1]
    · rw [List.getElem?_set_ne (fun q => e q.symm)]
      simp [List.getElem?_map, List.getElem?_range hj, h2 j e]
  · rw [List.getElem?_eq_none (by simp; omega), List.getElem?_eq_none (by simp; omega)]
theorem zfs_get {ad : Nat → Nat} {I : Nat → Int32} {J : Nat → Int64} {c k : Nat} {rf : Nat → Option Nat} (h : k < zNf c) : (zfs ad I J c rf)[k]? = some (zfv ad I J rf (zTy c k) k) := by
  simp [zfs, List.getElem?_map, List.getElem?_range h]
theorem zfs_len (ad : Nat → Nat) (I : Nat → Int32) (J : Nat → Int64) (c : Nat) (rf : Nat → Option Nat) : (zfs ad I J c rf).length = zNf c := by simp [zfs]
theorem zfv_ne {ad : Nat → Nat} {I I' : Nat → Int32} {J J' : Nat → Int64} {rf rf' : Nat → Option Nat} {ty : FieldType} {k : Nat} (h1 : I' k = I k) (h2 : J' k = J k) (h3 : rf' k = rf k) : zfv ad I' J' rf' ty k = zfv ad I J rf ty k := by
  unfold zfv; split <;> simp [h1, h2, h3]
theorem zwf_I {h : zH} {I : zTI} {J : zTJ} (hw : zwf h) : zwf (h.1, I, J) := hw
theorem zwf_sR {h : zH} {o k : Nat} {v : Option Nat} (hw : zwf h) (hv : ∀ q, v = some q → q < h.1.length) : zwf (zsR h.1 o k v, h.2.1, h.2.2) := by
  intro i e he a q hq
  dsimp only at he ⊢
  rw [zsR_len]
  by_cases hi : i = o
  · subst hi
    cases ho : h.1[i]? with
    | none =>
      have : zsR h.1 i k v = h.1 := by unfold zsR; rw [ho]
      rw [this, ho] at he; cases he
    | some e0 =>
      rw [zsR_get ho] at he
      cases he
      dsimp only at hq
      unfold zup at hq
      by_cases ha : a = k
      · subst ha; rw [zbeq_rf] at hq; exact hv q hq
      · rw [zbeq_ne ha] at hq; exact hw i e0 ho a q hq
  · rw [zsR_ne hi] at he
    exact hw i e he a q hq
theorem zwf_new {h : zH} {kd n : Nat} (hw : zwf h) : zwf (znew h kd n) := by
  intro i e he a q hq
  have hl : (znew h kd n).1.length = h.1.length + 1 := by simp [znew]
  rw [hl]
  by_cases hi : i < h.1.length
  · have : (znew h kd n).1[i]? = h.1[i]? := by unfold znew; exact List.getElem?_append_left hi
    rw [this] at he
    exact Nat.lt_succ_of_lt (hw i e he a q hq)
  · have he2 : (h.1 ++ [(kd, n, zno)])[i]? = some e := he
    rw [List.getElem?_append_right (by omega)] at he2
    have hz : i - h.1.length < 1 := (List.getElem?_eq_some_iff.mp he2).1
    rw [show i - h.1.length = 0 by omega] at he2
    cases he2
    cases hq
theorem zwf_cpy {h : zH} {a n : Nat} (hw : zwf h) : zwf (zcpy h a n) := fun i e he k q hq => zwf_new (kd := 13) (n := n) hw i e he k q hq
section zheap
variable {G : Nat → zM} {l : Launch} {S : zO} {D j : Nat} {k : zKt} {L : zL} {st : List Value} {h : zH} {res : zR}
theorem zvr {n q : Nat} {st : List Value} (h : ∀ w ∈ Value.ref q :: st, zvv n w) : q < n := zvS_hd h q rfl
/-- a field is read -/
theorem zstep_get (hcl : zclOK) (IHk : ∀ pc L st h r, k pc L st h = some r → zAt G l D j pc L st h r) {pc i a b : Nat} {ks : List Nat} {z : Int32} {zl : Int64} {sw : List (Int32 × Nat)} (he : zok G (G j) (pc, .getfield i, a, b, ks, z, zl, sw)) (hs : zstep G S D (pc, .getfield i, a, b, ks, z, zl, sw) k L st h = some res) : zAt G l D j pc L st h res := by
  obtain ⟨hd, hlk⟩ := he
  replace hd := hd.resolve_left (by intro q; cases q)
  dsimp only [zln] at hd
  dsimp only [zlk] at hlk
  unfold zstep at hs
  dsimp only at hs
  obtain ⟨o, t, rfl, hs1⟩ := zi_A1 hs
  obtain ⟨e, he, hk, hs2⟩ := zi_ob hs1
  clear hs hs1
  obtain ⟨C, T, N, ref, hc, ha, hfl, hsm, hty⟩ := hlk e.1 (zhas1_mem hk)
  obtain ⟨h12, hin, htys, hnm⟩ := hcl e.1 _ hc
  have hN := zNf_eq hc
  have key : ∀ (v : Value) (r2 : zR), zAt G l D j (pc + 3) L (v :: t) h r2 → (∀ ad adK, zfv ad (h.2.1 o) (h.2.2 o) e.2.2 (zTy e.1 a) a = ztr ad adK v) → (zwf h → zvv h.1.length v) → zAt G l D j pc L (.ref o :: t) h r2 := by
    intro v r2 hk hv hvv
    refine ⟨hk.1, ?_⟩
    intro p e' R s m args below meth c A Gd cy adK adV ad0 n0 z0 Cx hn hz hcc hss ad H locs ls ha0 hP hD hS hl hw hvL hvS
    have hws := zws_get (cy := cy) (ad := ad) he
    rw [zce_ob h12] at hws
    have hts := Cx.2.2.2.2.2.1
    refine va_get (D := Gd) (ci := e.1) (v := ztr ad adK v) (C := C) (T := T) (N := N) (ref := ref) Cx.1 Cx.2.1 hts hin Cx.2.2.2.2.1 Cx.2.2.2.2.2.2.2.2.1.1 hP o hws hc a ha (hts _ hfl) ?_ (by rw [zfs_get (by rw [hN]; exact ha), hv ad adK]) hd ?_
    · rcases hsm with rfl | hsm
      · exact fun _ q => q
      · exact u_same (hts _ hsm)
    · exact hk.2 p e' R s m args below meth c A Gd cy adK adV ad0 n0 z0 Cx hn hz hcc hss ad H locs ls ha0 hP hD hS hl hw hvL (zvS_cons (hvv hw) (zvS_tl hvS))
  split at hs2
  · exact key _ _ (IHk _ _ _ _ _ hs2) (fun ad adK => by rw [show zTy e.1 a = .long from hty]; rfl) (fun _ => zvv_l)
  · rcases zi_rf hs2 with ⟨q, hq, hs3⟩ | ⟨hq, hs3⟩
    · refine key _ _ (IHk _ _ _ _ _ hs3) (fun ad adK => ?_) (fun hw => zvv_r (hw o e he a q hq))
      rcases hty with ⟨n, hn⟩ | ⟨n, hn⟩ <;> (rw [hn]; simp [zfv, hq, va_rf, ztr])
    · refine key _ _ (IHk _ _ _ _ _ hs3) (fun ad adK => ?_) (fun _ => zvv_n)
      rcases hty with ⟨n, hn⟩ | ⟨n, hn⟩ <;> (rw [hn]; simp [zfv, hq, va_rf, ztr])
  · rename_i n1 n2
    refine key _ _ (IHk _ _ _ _ _ hs2) (fun ad adK => ?_) (fun _ => zvv_i)
    split at hty
    · exact absurd rfl n1
    · exact absurd rfl n2
    · rw [hty]; rfl
    · rw [hty]; rfl
/-- a row that writes one cell -/
theorem zAt_set {pc pc' : Nat} {st' : List Value} {o : Nat} {h' : zH} (hk : zAt G l D j pc' L st' h' res) (hlen : h'.1.length = h.1.length) (hsz : zsz h'.1 = zsz h.1) (hv : ∀ n, (∀ v ∈ st, zvv n v) → ∀ v ∈ st', zvv n v) (hwf : zwf h → (∀ v ∈ st, zvv h.1.length v) → zwf h')
    (ho : ∀ j, j ≠ o → h'.1[j]? = h.1[j]? ∧ h'.2.1 j = h.2.1 j ∧ h'.2.2 j = h.2.2 j)
    (hrow : ∀ (p : Program) (e : Env) (R : Room) (s : State) (m : MethodId) (args : Array Value) (below : List Frame) (meth : Method) (c : Code) (H : Heap) (locs : List Loc) (cells slots : Nat) (Q : State → Prop) (ls : Array Slot) (A : Nat → Prop) (Gd : va_G) (cy : Nat → ClassId) (ad adK adV : Nat → Nat), zC (G j) D p R s m args meth c A Gd cy adK adV → va_P Gd vwCl (zws cy ad h) H → va_D A (zws cy ad h) → va_S A s.heap H locs →
      (∀ (H1 : Heap) (locs1 : List Loc), va_P Gd vwCl ((zws cy ad h).set o (ad o, zat cy ad h' o)) H1 → va_D A ((zws cy ad h).set o (ad o, zat cy ad h' o)) → va_S A s.heap H1 locs1 → W p l e R s m args below meth c H1 locs1 cells slots Q (F0 m pc' ls (st'.map (ztr ad adK)))) → W p l e R s m args below meth c H locs cells slots Q (F0 m pc ls (st.map (ztr ad adK)))) : zAt G l D j pc L st h res := by
  refine ⟨by rw [← hlen, ← hsz]; exact hk.1, ?_⟩
  intro p e R s m args below meth c A Gd cy adK adV ad0 n0 z0 Cx hn hz hcc hss ad H locs ls ha0 hP hD hS hl hw hvL hvS
  refine hrow p e R s m args below meth c H locs _ _ _ ls A Gd cy ad adK adV Cx hP hD hS fun H1 locs1 hP1 hD1 hS1 => ?_
  rw [zws_set hlen rfl ho] at hP1 hD1
  have := hk.2 p e R s m args below meth c A Gd cy adK adV ad0 n0 z0 Cx (by rw [hlen]; exact hn) (by rw [hsz]; exact hz) hcc hss ad H1 locs1 ls ha0 hP1 hD1 hS1 hl (hwf hw hvS) (fun i v q => by rw [hlen]; exact hvL i v q) (fun v q => by rw [hlen]; exact hv _ hvS v q)
  rw [hlen, hsz] at this
  exact this
theorem zbo_fits {v : Int32} (h : zbo v = true) : narrow .boolean (.int v) = .int v ∧ fits .boolean (.int v) = true := by
  unfold zbo at h
  simp only [Bool.or_eq_true, decide_eq_true_eq] at h
  rcases h with rfl | rfl <;> exact ⟨by decide +kernel, by decide +kernel⟩
/-- a field is written -/
theorem zstep_put (hcl : zclOK) (IHk : ∀ pc L st h r, k pc L st h = some r → zAt G l D j pc L st h r) {pc i a b : Nat} {ks : List Nat} {z : Int32} {zl : Int64} {sw : List (Int32 × Nat)} (he : zok G (G j) (pc, .putfield i, a, b, ks, z, zl, sw)) (hs : zstep G S D (pc, .putfield i, a, b, ks, z, zl, sw) k L st h = some res) : zAt G l D j pc L st h res := by
  obtain ⟨hd, hlk⟩ := he
  replace hd := hd.resolve_left (by intro q; cases q)
  dsimp only [zln] at hd
  dsimp only [zlk] at hlk
  obtain ⟨hlk, hlp⟩ := hlk
  unfold zstep at hs
  dsimp only at hs
  have key : ∀ (o : Nat) (v : Value) (t : List Value) (e : zE) (h' : zH), h.1[o]? = some e → zhas1 ks e.1 = true → zAt G l D j (pc + 3) L t h' res → h'.1.length = h.1.length → zsz h'.1 = zsz h.1 → (zwf h → zvv h.1.length v → zwf h') → (∀ j, j ≠ o → h'.1[j]? = h.1[j]? ∧ h'.2.1 j = h.2.1 j ∧ h'.2.2 j = h.2.2 j) →
      (∀ (C : String) (T : u_T) (N : Nat), vwCl[e.1]? = some (C, T, N) → zfl (G j).1.cls i a b e.1 → (∀ ad adK, narrow (zTy e.1 a) (ztr ad adK v) = ztr ad adK v ∧ fits (zTy e.1 a) (ztr ad adK v) = true) ∧ ∀ cy ad adK, zat cy ad h' o = .inr (e.1, (zfs ad (h.2.1 o) (h.2.2 o) e.1 e.2.2).set a (ztr ad adK v))) → zAt G l D j pc L (v :: .ref o :: t) h res := by
    intro o v t e h' he hks hk hlen hsz hwf ho hf
    have hz := hlk e.1 (zhas1_mem hks)
    obtain ⟨C, T, N, ref, hc, ha, hfl, hsm, hty⟩ := id hz
    obtain ⟨C2, T2, N2, hc2, hfin⟩ := hlp e.1 (zhas1_mem hks)
    cases hc.symm.trans hc2
    obtain ⟨h12, hin, htys, hnm⟩ := hcl e.1 _ hc
    have hN := zNf_eq hc
    obtain ⟨hf1, hf2⟩ := hf C T N hc hz
    refine zAt_set hk hlen hsz (fun n h => zvS_tl (zvS_tl h)) (fun hw hv => hwf hw (zvS_hd hv)) ho ?_
    intro p e' R s m args below meth c H locs cells slots Q ls A Gd cy ad adK adV Cx hP hD hS kk
    have hws := zws_get (cy := cy) (ad := ad) he
    rw [zce_ob h12] at hws
    have hts := Cx.2.2.2.2.2.1
    have hsame : ∀ x, s.fieldFound? (T a).1 (T a).2.1 (T a).2.2.1 = some x → s.fieldFound? ref (T a).2.1 (T a).2.2.1 = some x := by
      rcases hsm with rfl | hsm
      · exact fun _ q => q
      · exact u_same (hts _ hsm)
    have kk2 : ∀ (H1 : Heap) (locs1 : List Loc), va_P Gd vwCl ((zws cy ad h).set o (ad o, .inr (e.1, (zfs ad (h.2.1 o) (h.2.2 o) e.1 e.2.2).set a (ztr ad adK v)))) H1 → va_D A ((zws cy ad h).set o (ad o, .inr (e.1, (zfs ad (h.2.1 o) (h.2.2 o) e.1 e.2.2).set a (ztr ad adK v)))) → va_S A s.heap H1 locs1 → W p l e' R s m args below meth c H1 locs1 cells slots Q (F0 m (pc + 3) ls (t.map (ztr ad adK))) := by
      intro H1 locs1 h1 h2 h3
      rw [← hf2 cy ad adK] at h1 h2
      exact kk H1 locs1 h1 h2 h3
    rcases hfin with hfin | ⟨hfin, hnmi, hdecl⟩
    · exact va_put (D := Gd) (ci := e.1) (v := ztr ad adK v) (ty := zTy e.1 a) (C := C) (T := T) (N := N) (ref := ref) Cx.1 Cx.2.1 hts hin (zTy e.1) htys hnm Cx.2.2.2.2.1 Cx.2.2.2.2.2.2.2.2.1.1 hP hD hS o hws hc a ha (hts _ hfl) hsame hfin (htys a ha) (hf1 ad adK).1 (hf1 ad adK).2 (by rw [zfs_len, hN]; exact ha) hd kk2
    · exact va_putF (D := Gd) (ci := e.1) (v := ztr ad adK v) (ty := zTy e.1 a) (C := C) (T := T) (N := N) (ref := ref) Cx.1 Cx.2.1 hts hin (zTy e.1) htys hnm Cx.2.2.2.2.1 Cx.2.2.2.2.2.2.2.2.1.1 hP hD hS o hws hc a ha (hts _ hfl) hsame hfin (Cx.2.2.2.2.2.2.2.1.trans hnmi) hdecl (htys a ha) (hf1 ad adK).1 (hf1 ad adK).2 (by rw [zfs_len, hN]; exact ha) hd kk2
  have keyI : ∀ (o : Nat) (x : Int32) (t : List Value), (b = 0 ∨ (b = 3 ∧ zbo x = true)) → zob h o ks (fun _ => k (pc + 3) L t (h.1, zsI h.2.1 o a x, h.2.2)) = some res → zAt G l D j pc L (.int x :: .ref o :: t) h res := by
    intro o x t hb hs2
    obtain ⟨e, he, hks, hs3⟩ := zi_ob hs2
    refine key o (.int x) t e _ he hks (IHk _ _ _ _ _ hs3) rfl rfl (fun hw _ => hw) (fun j hj => ⟨rfl, zsI_ne _ _ _ hj, rfl⟩) ?_
    intro C T N hc hz
    obtain ⟨C', T', N', ref', hc', ha, -, -, hty⟩ := hz
    obtain ⟨h12, -⟩ := hcl e.1 _ hc
    have hN := zNf_eq hc'
    have hi : (zTy e.1 a = .int ∨ (zTy e.1 a = .boolean)) ∧ (narrow (zTy e.1 a) (.int x) = .int x ∧ fits (zTy e.1 a) (.int x) = true) := by
      rcases hb with rfl | ⟨rfl, hb⟩
      · rw [show zTy e.1 a = .int from hty]; exact ⟨Or.inl rfl, rfl, rfl⟩
      · rw [show zTy e.1 a = .boolean from hty]; exact ⟨Or.inr rfl, zbo_fits hb⟩
    refine ⟨fun ad adK => hi.2, fun cy ad adK => ?_⟩
    have : (h.1, zsI h.2.1 o a x, h.2.2).1[o]? = some e := he
    unfold zat
    rw [this]
    dsimp only
    rw [zce_ob h12]
    congr 2
    refine (zmap_set (by rw [hN]; exact ha) ?_ ?_).symm
    · rw [zsI_row]; rcases hi.1 with h1 | h1 <;> (rw [h1]; simp [zfv, upd, ztr])
    · intro q hq; exact zfv_ne (by rw [zsI_row]; simp [upd, hq]) rfl rfl
  unfold zPut at hs
  split at hs
  · split at hs
    · exact keyI _ _ _ (Or.inl rfl) hs
    · obtain ⟨hb, hs⟩ := zi_zif hs
      exact keyI _ _ _ (Or.inr ⟨rfl, hb⟩) hs
    · cases hs
  · rename_i x o t
    split at hs
    · dsimp only at hs
      obtain ⟨e, he, hks, hs3⟩ := zi_ob hs
      refine key o (.long x) t e _ he hks (IHk _ _ _ _ _ hs3) rfl rfl (fun hw _ => hw) (fun j hj => ⟨rfl, rfl, zsJ_ne _ _ _ hj⟩) ?_
      intro C T N hc hz
      obtain ⟨C', T', N', ref', hc', ha, -, -, hty⟩ := hz
      replace hty : zTy e.1 a = .long := hty
      obtain ⟨h12, -⟩ := hcl e.1 _ hc
      have hN := zNf_eq hc'
      refine ⟨fun ad adK => by rw [hty]; exact ⟨rfl, rfl⟩, fun cy ad adK => ?_⟩
      have : (h.1, h.2.1, zsJ h.2.2 o a x).1[o]? = some e := he
      unfold zat
      rw [this]
      dsimp only
      rw [zce_ob h12]
      congr 2
      refine (zmap_set (by rw [hN]; exact ha) ?_ ?_).symm
      · rw [zsJ_row, hty]; simp [zfv, vp_updL, ztr]
      · intro q hq; exact zfv_ne rfl (by rw [zsJ_row]; simp [vp_updL, hq]) rfl
    · cases hs
  · rename_i x o t
    split at hs
    · dsimp only at hs
      obtain ⟨e, he, hks, hs3⟩ := zi_ob hs
      refine key o (.ref x) t e _ he hks (IHk _ _ _ _ _ hs3) (zsR_len _ _ _ _) (zsz_sR _ _ _ _) (fun hw hv => zwf_sR hw (fun q hq => by cases hq; exact hv _ rfl)) (fun j hj => ⟨zsR_ne hj, rfl, rfl⟩) ?_
      intro C T N hc hz
      obtain ⟨C', T', N', ref', hc', ha, -, -, hty⟩ := hz
      replace hty : (∃ n, zTy e.1 a = .object n) ∨ ∃ n, zTy e.1 a = .array n := hty
      obtain ⟨h12, -⟩ := hcl e.1 _ hc
      have hN := zNf_eq hc'
      refine ⟨fun ad adK => by rcases hty with ⟨n, hn⟩ | ⟨n, hn⟩ <;> (rw [hn]; exact ⟨rfl, rfl⟩), fun cy ad adK => ?_⟩
      have : (zsR h.1 o a (some x), h.2.1, h.2.2).1[o]? = some (e.1, e.2.1, zup e.2.2 a (some x)) := zsR_get he
      unfold zat
      rw [this]
      dsimp only
      rw [zce_ob (e := (e.1, e.2.1, zup e.2.2 a (some x))) h12]
      congr 2
      refine (zmap_set (by rw [hN]; exact ha) ?_ ?_).symm
      · rcases hty with ⟨n, hn⟩ | ⟨n, hn⟩ <;> (rw [hn]; simp [zfv, zup, va_rf, ztr])
      · intro q hq; exact zfv_ne rfl rfl (zup_ne hq)
    · cases hs
  · rename_i o t
    split at hs
    · dsimp only at hs
      obtain ⟨e, he, hks, hs3⟩ := zi_ob hs
      refine key o .null t e _ he hks (IHk _ _ _ _ _ hs3) (zsR_len _ _ _ _) (zsz_sR _ _ _ _) (fun hw hv => zwf_sR hw (fun q hq => by cases hq)) (fun j hj => ⟨zsR_ne hj, rfl, rfl⟩) ?_
      intro C T N hc hz
      obtain ⟨C', T', N', ref', hc', ha, -, -, hty⟩ := hz
      replace hty : (∃ n, zTy e.1 a = .object n) ∨ ∃ n, zTy e.1 a = .array n := hty
      obtain ⟨h12, -⟩ := hcl e.1 _ hc
      have hN := zNf_eq hc'
      refine ⟨fun ad adK => by rcases hty with ⟨n, hn⟩ | ⟨n, hn⟩ <;> (rw [hn]; exact ⟨rfl, rfl⟩), fun cy ad adK => ?_⟩
      have : (zsR h.1 o a none, h.2.1, h.2.2).1[o]? = some (e.1, e.2.1, zup e.2.2 a none) := zsR_get he
      unfold zat
      rw [this]
      dsimp only
      rw [zce_ob (e := (e.1, e.2.1, zup e.2.2 a none)) h12]
      congr 2
      refine (zmap_set (by rw [hN]; exact ha) ?_ ?_).symm
      · rcases hty with ⟨n, hn⟩ | ⟨n, hn⟩ <;> (rw [hn]; simp [zfv, zup, va_rf, ztr])
      · intro q hq; exact zfv_ne rfl rfl (zup_ne hq)
    · cases hs
  · cases hs
end zheap
