/-! ===== arrays and new cells ===== -/
section zarr
variable {G : Nat → zM} {l : Launch} {S : zO} {D j : Nat} {k : zKt} {L : zL} {st : List Value} {h : zH} {res : zR}
/-- a row that reads one array -/
theorem zAt_ald {pc pc' q n kd : Nat} {rf : Nat → Option Nat} {i : Int32} {t : List Value} {v : Value} (he : h.1[q]? = some (kd, n, rf)) (hi : vp_in i n) (hk : zAt G l D j pc' L (v :: t) h res) (hvv : zwf h → zvv h.1.length v)
    (hrow : ∀ (p : Program) (e : Env) (R : Room) (s : State) (m : MethodId) (args : Array Value) (below : List Frame) (meth : Method) (c : Code) (H : Heap) (locs : List Loc) (cells slots : Nat) (Q : State → Prop) (ls : Array Slot) (Gd : va_G) (cy : Nat → ClassId) (ad adK : Nat → Nat), p.tables.exec = Jvm.exec → c.code = (G j).2.1 → va_K Gd vwCl (ztys cy) s → va_P Gd vwCl (zws cy ad h) H → (zws cy ad h)[q]? = some (ad q, zce cy ad (h.2.1 q) (h.2.2 q) (kd, n, rf)) →
      W p l e R s m args below meth c H locs cells slots Q (F0 m pc' ls (ztr ad adK v :: t.map (ztr ad adK))) → W p l e R s m args below meth c H locs cells slots Q (F0 m pc ls (.int i :: .ref (ad q) :: t.map (ztr ad adK)))) : zAt G l D j pc L (.int i :: .ref q :: t) h res := by
  refine ⟨hk.1, ?_⟩
  intro p e R s m args below meth c A Gd cy adK adV ad0 n0 z0 Cx hn hz hcc hss ad H locs ls ha0 hP hD hS hl hw hvL hvS
  refine hrow p e R s m args below meth c H locs _ _ _ ls Gd cy ad adK Cx.1 Cx.2.1 Cx.2.2.2.2.2.2.2.2.1.1 hP (zws_get he) ?_
  exact hk.2 p e R s m args below meth c A Gd cy adK adV ad0 n0 z0 Cx hn hz hcc hss ad H locs ls ha0 hP hD hS hl hw hvL (zvS_cons (hvv hw) (zvS_tl (zvS_tl hvS)))
theorem zrf_map {ad adK : Nat → Nat} {r : Option Nat} {v : Value} (h : (∃ q, r = some q ∧ v = .ref q) ∨ (r = none ∧ v = .null)) : va_rf (r.map ad) = ztr ad adK v := by
  rcases h with ⟨q, rfl, rfl⟩ | ⟨rfl, rfl⟩ <;> rfl
theorem zat_I {cy : Nat → ClassId} {ad : Nat → Nat} {h : zH} {q n kd : Nat} {rf : Nat → Option Nat} {I : zTI} (he : h.1[q]? = some (kd, n, rf)) : zat cy ad (h.1, I, h.2.2) q = zce cy ad (I q) (h.2.2 q) (kd, n, rf) := by
  unfold zat; dsimp only; rw [he]
theorem zat_J {cy : Nat → ClassId} {ad : Nat → Nat} {h : zH} {q n kd : Nat} {rf : Nat → Option Nat} {J : zTJ} (he : h.1[q]? = some (kd, n, rf)) : zat cy ad (h.1, h.2.1, J) q = zce cy ad (h.2.1 q) (J q) (kd, n, rf) := by
  unfold zat; dsimp only; rw [he]
theorem vp_nar_z {x : Int32} (h : zbo x = true) : vp_nar .boolean x = x := by
  unfold vp_nar; rw [(zbo_fits h).1]
set_option maxHeartbeats 4000000 in
theorem zstep_arr (IHk : ∀ pc L st h r, k pc L st h = some r → zAt G l D j pc L st h r) {e : zI} (he : zok G (G j) e)
    (hns : match e.2.1 with
      | .iaload => True | .baload => True | .laload => True | .aaload => True | .iastore => True | .bastore => True | .lastore => True | .aastore => True | .arraylength => True | .checkcast _ => True | _ => False)
    (hs : zstep G S D e k L st h = some res) : zAt G l D j e.1 L st h res := by
  obtain ⟨pc, ins, a, b, ks, z, zl, sw⟩ := e
  obtain ⟨hd, hlk⟩ := he
  cases ins <;> first | (exact absurd hns id; done) | skip
  all_goals (unfold zstep at hs; dsimp only at hs)
  all_goals (replace hd := hd.resolve_left (by intro q; cases q); dsimp only [zln] at hd; dsimp only [zlk] at hlk)
  case iaload =>
    obtain ⟨q, i, t, rfl, hs1⟩ := zi_IA hs
    obtain ⟨n, rf, he, hs2⟩ := zi_ar hs1
    obtain ⟨hi, hs3⟩ := zi_zif hs2
    exact zAt_ald he (zin_vp hi) (IHk _ _ _ _ _ hs3) (fun _ => zvv_i) (fun p e R s m args below meth c H locs cells slots Q ls Gd cy ad adK hx hb hK hP hw kk => va_iald hx hb hK hP q 1 hw rfl (zin_vp hi) hd kk)
  case baload =>
    obtain ⟨q, i, t, rfl, hs1⟩ := zi_IA hs
    obtain ⟨n, rf, ⟨he, hs2⟩ | ⟨he, hs2⟩⟩ := zi_ar2 hs1
    · obtain ⟨hi, hs3⟩ := zi_zif hs2
      exact zAt_ald he (zin_vp hi) (IHk _ _ _ _ _ hs3) (fun _ => zvv_i) (fun p e R s m args below meth c H locs cells slots Q ls Gd cy ad adK hx hb hK hP hw kk => va_bald hx hb hK hP q 0 hw rfl (zin_vp hi) hd kk)
    · obtain ⟨hi, hs3⟩ := zi_zif hs2
      exact zAt_ald he (zin_vp hi) (IHk _ _ _ _ _ hs3) (fun _ => zvv_i) (fun p e R s m args below meth c H locs cells slots Q ls Gd cy ad adK hx hb hK hP hw kk => va_zald hx hb hK hP q 3 hw rfl (zin_vp hi) hd kk)
  case laload =>
    obtain ⟨q, i, t, rfl, hs1⟩ := zi_IA hs
    obtain ⟨n, rf, he, hs2⟩ := zi_ar hs1
    obtain ⟨hi, hs3⟩ := zi_zif hs2
    exact zAt_ald he (zin_vp hi) (IHk _ _ _ _ _ hs3) (fun _ => zvv_l) (fun p e R s m args below meth c H locs cells slots Q ls Gd cy ad adK hx hb hK hP hw kk => va_lald hx hb hK hP q 2 hw rfl (zin_vp hi) hd kk)
  case aaload =>
    obtain ⟨q, i, t, rfl, hs1⟩ := zi_IA hs
    obtain ⟨hk6, hs1⟩ := zi_zif hs1
    obtain ⟨n, rf, he, hs2⟩ := zi_ar hs1
    obtain ⟨hi, hs3⟩ := zi_zif hs2
    have hv : ∃ v, k (pc + 1) L (v :: t) h = some res ∧ ((∃ q, rf i.toNatClampNeg = some q ∧ v = .ref q) ∨ (rf i.toNatClampNeg = none ∧ v = .null)) := by
      rcases zi_rf hs3 with ⟨w, h1, h2⟩ | ⟨h1, h2⟩
      · exact ⟨_, h2, Or.inl ⟨w, h1, rfl⟩⟩
      · exact ⟨_, h2, Or.inr ⟨h1, rfl⟩⟩
    obtain ⟨v, hs4, hv⟩ := hv
    have hvv : zwf h → zvv h.1.length v := by
      intro hw
      rcases hv with ⟨w, h1, rfl⟩ | ⟨-, rfl⟩
      · exact zvv_r (hw q _ he _ w h1)
      · exact zvv_n
    have hm := zhas1_mem hk6
    simp only [List.mem_cons, List.not_mem_nil, or_false] at hm
    rcases hm with rfl | rfl
    · exact zAt_ald he (zin_vp hi) (IHk _ _ _ _ _ hs4) hvv (fun p e R s m args below meth c H locs cells slots Q ls Gd cy ad adK hx hb hK hP hw kk => va_aldq hx hb hK hP q 4 hw rfl (zin_vp hi) hd (by rw [zrf_map (adK := adK) hv]; exact kk))
    · exact zAt_ald he (zin_vp hi) (IHk _ _ _ _ _ hs4) hvv (fun p e R s m args below meth c H locs cells slots Q ls Gd cy ad adK hx hb hK hP hw kk => va_aldq hx hb hK hP q 5 hw rfl (zin_vp hi) hd (by rw [zrf_map (adK := adK) hv]; exact kk))
  case iastore =>
    obtain ⟨q, i, x, t, rfl, hs1⟩ := zi_VA hs
    obtain ⟨n, rf, he, hs2⟩ := zi_ar hs1
    obtain ⟨hi, hs3⟩ := zi_zif hs2
    refine zAt_set (o := q) (IHk _ _ _ _ _ hs3) rfl rfl (fun n h => zvS_tl (zvS_tl (zvS_tl h))) (fun hw _ => hw) (fun j hj => ⟨rfl, zsI_ne _ _ _ hj, rfl⟩) ?_
    intro p e R s m args below meth c H locs cells slots Q ls A Gd cy ad adK adV Cx hP hD hS kk
    refine va_iast Cx.1 Cx.2.1 Cx.2.2.2.2.2.2.2.2.1.1 hP hD hS q 1 (zws_get he) rfl (zin_vp hi) hd fun H1 locs1 h1 h2 h3 => kk H1 locs1 ?_ ?_ h3
    · rw [zat_I he, zsI_row]; exact h1
    · rw [zat_I he, zsI_row]; exact h2
  case bastore =>
    obtain ⟨q, i, x, t, rfl, hs1⟩ := zi_VA hs
    obtain ⟨n, rf, ⟨he, hs2⟩ | ⟨he, hs2⟩⟩ := zi_ar2 hs1
    · obtain ⟨hi, hs3⟩ := zi_zif hs2
      refine zAt_set (o := q) (IHk _ _ _ _ _ hs3) rfl rfl (fun n h => zvS_tl (zvS_tl (zvS_tl h))) (fun hw _ => hw) (fun j hj => ⟨rfl, zsI_ne _ _ _ hj, rfl⟩) ?_
      intro p e R s m args below meth c H locs cells slots Q ls A Gd cy ad adK adV Cx hP hD hS kk
      refine va_bast Cx.1 Cx.2.1 Cx.2.2.2.2.2.2.2.2.1.1 hP hD hS q 0 (zws_get he) rfl (zin_vp hi) hd fun H1 locs1 h1 h2 h3 => kk H1 locs1 ?_ ?_ h3
      · rw [zat_I he, zsI_row, ← vp_nar_byte]; exact h1
      · rw [zat_I he, zsI_row, ← vp_nar_byte]; exact h2
    · obtain ⟨hi, hs3⟩ := zi_zif hs2
      obtain ⟨hz, hs3⟩ := zi_zif hs3
      refine zAt_set (o := q) (IHk _ _ _ _ _ hs3) rfl rfl (fun n h => zvS_tl (zvS_tl (zvS_tl h))) (fun hw _ => hw) (fun j hj => ⟨rfl, zsI_ne _ _ _ hj, rfl⟩) ?_
      intro p e R s m args below meth c H locs cells slots Q ls A Gd cy ad adK adV Cx hP hD hS kk
      refine va_zast Cx.1 Cx.2.1 Cx.2.2.2.2.2.2.2.2.1.1 hP hD hS q 3 (zws_get he) rfl (zin_vp hi) hd fun H1 locs1 h1 h2 h3 => kk H1 locs1 ?_ ?_ h3
      · rw [zat_I he, zsI_row]; rw [vp_nar_z hz] at h1; exact h1
      · rw [zat_I he, zsI_row]; rw [vp_nar_z hz] at h2; exact h2
  case lastore =>
    obtain ⟨q, i, x, t, rfl, hs1⟩ := zi_WA hs
    obtain ⟨n, rf, he, hs2⟩ := zi_ar hs1
    obtain ⟨hi, hs3⟩ := zi_zif hs2
    refine zAt_set (o := q) (IHk _ _ _ _ _ hs3) rfl rfl (fun n h => zvS_tl (zvS_tl (zvS_tl h))) (fun hw _ => hw) (fun j hj => ⟨rfl, rfl, zsJ_ne _ _ _ hj⟩) ?_
    intro p e R s m args below meth c H locs cells slots Q ls A Gd cy ad adK adV Cx hP hD hS kk
    refine va_last Cx.1 Cx.2.1 Cx.2.2.2.2.2.2.2.2.1.1 hP hD hS q 2 (zws_get he) rfl (zin_vp hi) hd fun H1 locs1 h1 h2 h3 => kk H1 locs1 ?_ ?_ h3
    · rw [zat_J he, zsJ_row]; exact h1
    · rw [zat_J he, zsJ_row]; exact h2
  case aastore =>
    obtain ⟨q, i, x, t, rfl, hs1⟩ := zi_QA hs
    obtain ⟨hk6, hs1⟩ := zi_zif hs1
    obtain ⟨n, rf, he, hs2⟩ := zi_ar hs1
    obtain ⟨ex, hex, hkx, hs2⟩ := zi_ob hs2
    obtain ⟨hi, hs3⟩ := zi_zif hs2
    have hup : ∀ ad : Nat → Nat, (fun j => (zup rf i.toNatClampNeg (some x) j).map ad) = va_up (fun j => (rf j).map ad) i.toNatClampNeg (some (ad x)) := by
      intro ad; funext j
      by_cases ej : j = i.toNatClampNeg
      · subst ej; unfold zup; rw [zbeq_rf]; simp [va_up]
      · rw [zup_ne ej]; simp [va_up, ej]
    have hsr : (zsR h.1 q i.toNatClampNeg (some x))[q]? = some (a, n, zup rf i.toNatClampNeg (some x)) := zsR_get he
    have hm := zhas1_mem hk6
    simp only [List.mem_cons, List.not_mem_nil, or_false] at hm
    refine zAt_set (o := q) (IHk _ _ _ _ _ hs3) (zsR_len _ _ _ _) (zsz_sR _ _ _ _) (fun n h => zvS_tl (zvS_tl (zvS_tl h))) (fun hw hv => zwf_sR hw (fun w hw => by cases hw; exact zvr hv)) (fun j hj => ⟨zsR_ne hj, rfl, rfl⟩) ?_
    intro p e R s m args below meth c H locs cells slots Q ls A Gd cy ad adK adV Cx hP hD hS kk
    have hz : zat cy ad (zsR h.1 q i.toNatClampNeg (some x), h.2.1, h.2.2) q = zce cy ad (h.2.1 q) (h.2.2 q) (a, n, zup rf i.toNatClampNeg (some x)) := by unfold zat; dsimp only; rw [hsr]
    rcases hm with rfl | rfl
    · have hx7 : ex.1 = 7 := by simpa using zhas1_mem hkx
      have hwx := zws_get (cy := cy) (ad := ad) hex
      rw [zce_ob (by omega), hx7] at hwx
      refine va_astq (r := (RX7, TX7, 3)) Cx.1 Cx.2.1 Cx.2.2.2.2.2.2.2.2.1.1 hP hD hS q 4 x 7 (zws_get he) rfl hwx rfl (zin_vp hi) hd fun H1 locs1 h1 h2 h3 => kk H1 locs1 ?_ ?_ h3
      · rw [hz]; show va_P _ _ (List.set _ _ (_, Sum.inl (cy 4, n, .inr (.inr (.inr (.inr (fun j => (zup rf i.toNatClampNeg (some x) j).map ad))))))) _; rw [hup]; exact h1
      · rw [hz]; show va_D _ (List.set _ _ (_, Sum.inl (cy 4, n, .inr (.inr (.inr (.inr (fun j => (zup rf i.toNatClampNeg (some x) j).map ad))))))); rw [hup]; exact h2
    · have hx9 : ex.1 = 9 := by simpa using zhas1_mem hkx
      have hwx := zws_get (cy := cy) (ad := ad) hex
      rw [zce_ob (by omega), hx9] at hwx
      refine va_astq (r := (RX10, TX10, 1)) Cx.1 Cx.2.1 Cx.2.2.2.2.2.2.2.2.1.1 hP hD hS q 5 x 9 (zws_get he) rfl hwx rfl (zin_vp hi) hd fun H1 locs1 h1 h2 h3 => kk H1 locs1 ?_ ?_ h3
      · rw [hz]; show va_P _ _ (List.set _ _ (_, Sum.inl (cy 5, n, .inr (.inr (.inr (.inr (fun j => (zup rf i.toNatClampNeg (some x) j).map ad))))))) _; rw [hup]; exact h1
      · rw [hz]; show va_D _ (List.set _ _ (_, Sum.inl (cy 5, n, .inr (.inr (.inr (.inr (fun j => (zup rf i.toNatClampNeg (some x) j).map ad))))))); rw [hup]; exact h2
  case arraylength =>
    obtain ⟨q, t, rfl, hs1⟩ := zi_A1 hs
    obtain ⟨e, he, h12, hs2⟩ := zi_al hs1
    have hk := IHk _ _ _ _ _ hs2
    refine ⟨hk.1, ?_⟩
    intro p e' R s m args below meth c A Gd cy adK adV ad0 n0 z0 Cx hn hz hcc hss ad H locs ls ha0 hP hD hS hl hw hvL hvS
    have hw0 := zws_get (cy := cy) (ad := ad) he
    have kk := hk.2 p e' R s m args below meth c A Gd cy adK adV ad0 n0 z0 Cx hn hz hcc hss ad H locs ls ha0 hP hD hS hl hw hvL (zvS_cons zvv_i (zvS_tl hvS))
    have hK := Cx.2.2.2.2.2.2.2.2.1.1
    unfold zce at hw0
    split at hw0
    · exact va_alen Cx.1 Cx.2.1 hK hP q 0 hw0 rfl rfl hd kk
    · exact va_alen Cx.1 Cx.2.1 hK hP q 1 hw0 rfl rfl hd kk
    · exact va_alen Cx.1 Cx.2.1 hK hP q 2 hw0 rfl rfl hd kk
    · exact va_alen Cx.1 Cx.2.1 hK hP q 3 hw0 rfl rfl hd kk
    · exact va_alen Cx.1 Cx.2.1 hK hP q 4 hw0 rfl rfl hd kk
    · exact va_alen Cx.1 Cx.2.1 hK hP q 5 hw0 rfl rfl hd kk
    · exfalso
      obtain ⟨r, hr, -⟩ := hP q _ hw0
      have : e.1 < vwCl.length := (List.getElem?_eq_some_iff.mp hr).1
      exact absurd this (by show ¬ e.1 < 12; omega)
  case checkcast =>
    obtain ⟨q, t, rfl, hs1⟩ := zi_A1 hs
    obtain ⟨n, rf, he, hs2⟩ := zi_ar hs1
    have hk := IHk _ _ _ _ _ hs2
    refine ⟨hk.1, ?_⟩
    intro p e' R s m args below meth c A Gd cy adK adV ad0 n0 z0 Cx hn hz hcc hss ad H locs ls ha0 hP hD hS hl hw hvL hvS
    have hw0 := zws_get (cy := cy) (ad := ad) he
    have hfc : s.vm.findClass "[I" = some (cy 1) := ((Cx.2.2.2.2.2.2.2.2.1.1).2 1 _ rfl).2
    exact va_castA Cx.1 Cx.2.1 Cx.2.2.2.2.1 (Cx.2.2.2.2.2.1 _ hlk) hP q hw0 hfc hd (hk.2 p e' R s m args below meth c A Gd cy adK adV ad0 n0 z0 Cx hn hz hcc hss ad H locs ls ha0 hP hD hS hl hw hvL hvS)
end zarr
