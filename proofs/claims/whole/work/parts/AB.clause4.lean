/-! ===== a rule: shift ===== -/
set_option maxHeartbeats 16000000 in
theorem p_dS {σ : zSg} {J J' : zTJ} {nc t tt q m : Nat} {B : Nat → Nat} {L : List Nat} {I K : zTI} (H : zKw nc t B tt q L m I K) (htt : tt < 6) (hv : zww B t q = [115, 104, 105, 102, 116]) : ∃ r I1 I1', qu_readClause σ I J = some (some (.int r), (zSC σ, I1, J)) ∧ qm_isDoingHere 2 K J' = some (some (.int r), (zSM, I1', J')) ∧ zOq nc t B tt L I K r I1 I1' := by
  obtain ⟨HR, hz, e8, e5, e15, hn, X0, hL, hne⟩ := H
  obtain ⟨⟨a1, a2, b1, b2, hq, T, b10⟩, C, e9, e13, hm, hnv⟩ := id HR
  rw [hz] at a2
  have ht := T.1
  have hle := zru_le (P := zlr B) (t := t) q hq
  have hlt := zww_lt hne
  have hps := p_pass (J := J') T q K b2 b1 rfl hq
  rw [p_rcS T a1 a2 hq hv e8 hn, p_dhS (a := 60 * tt + 5 * nc) hps (by rw [zsI_no _ _ _ (by decide)]; exact C.2.1) (by rw [zsI_ne _ _ _ (by decide)]; exact e5) htt hn rfl]
  have HW := zRd_w HR hle
  unfold zW7
  have hZ : ∃ Z Z', Z = (zsI (zsI (zsI (zsI I 11 2 (nI (zru (zbl B) t (zru (zlr B) t q)))) 11 8 (nI (nc + 1))) 14 (5 * nc + 0) 2) 14 (5 * nc + 2) (I 11 6)) ∧ Z' = (zsI (zsI (zsI (zsI K 0 9 (nI (zru (zlr B) t q))) 4 (60 * tt + 5 * nc) 2) 4 (60 * tt + 5 * nc + 1) (zsI K 0 9 (nI (zru (zlr B) t q)) 3 tt)) 4 (60 * tt + 5 * nc + 3) (-1)) := ⟨_, _, rfl, rfl⟩
  obtain ⟨Z, Z', eZ, eZ'⟩ := hZ
  rw [← eZ, ← eZ']
  have HZ : zRd t B tt (zru (zlr B) t q) L m Z Z' := by
    rw [eZ, eZ']
    refine zRd_e HW (fun k hk => ?_) ?_ ?_ (fun k hk => ?_) ?_ ?_ ?_
    · rw [zsI_ne _ _ _ (by decide), zsI_ne _ _ _ (by decide), zsI_no _ _ _ (by omega)]
    · rw [zsI_ne _ _ _ (by decide), zsI_ne _ _ _ (by decide), zsI_ne _ _ _ (by decide)]
    · rw [zsI_ne _ _ _ (by decide), zsI_ne _ _ _ (by decide), zsI_ne _ _ _ (by decide)]
    · rw [zsI_ne _ _ _ (by decide), zsI_ne _ _ _ (by decide), zsI_ne _ _ _ (by decide)]
    · rw [zsI_ne _ _ _ (by decide), zsI_ne _ _ _ (by decide), zsI_ne _ _ _ (by decide)]
    · rw [zsI_ne _ _ _ (by decide), zsI_ne _ _ _ (by decide), zsI_ne _ _ _ (by decide)]
    · rw [zsI_ne _ _ _ (by decide), zsI_ne _ _ _ (by decide), zsI_ne _ _ _ (by decide)]
  have fZ : zIc I Z := by rw [eZ]; exact (((zIc.s (by omega)).tr (zIc.s (by omega))).tr (zIc.s (by omega))).tr (zIc.s (by omega))
  have fZ' : zIm_ tt K Z' := by rw [eZ']; exact (((zIm_.s0 (by omega)).tr (zIm_.s4 (by omega))).tr (zIm_.s4 (by omega))).tr (zIm_.s4 (by omega))
  have zA : ∀ i, i < 5 * nc → Z 14 i = I 14 i := fun i hi => by rw [eZ, zsI_no _ _ _ (by omega), zsI_no _ _ _ (by omega), zsI_ne _ _ _ (by decide), zsI_ne _ _ _ (by decide)]
  have zA' : ∀ i, i < 60 * tt + 5 * nc → Z' 4 i = K 4 i := fun i hi => by rw [eZ', zsI_no _ _ _ (by omega), zsI_no _ _ _ (by omega), zsI_no _ _ _ (by omega), zsI_ne _ _ _ (by decide)]
  have z8 : Z 11 8 = nI (nc + 1) := by rw [eZ, zsI_ne _ _ _ (by decide), zsI_ne _ _ _ (by decide), zsI_at]
  have z15 : Z' 0 15 = nI (nc + 1) := by rw [eZ', zsI_ne _ _ _ (by decide), zsI_ne _ _ _ (by decide), zsI_ne _ _ _ (by decide), zsI_no _ _ _ (by decide)]; exact e15
  have z5 : Z' 5 tt = nI nc := by rw [eZ', zsI_ne _ _ _ (by decide), zsI_ne _ _ _ (by decide), zsI_ne _ _ _ (by decide), zsI_ne _ _ _ (by decide)]; exact e5
  have zv0 : Z 14 (5 * nc + 0) = nI 2 := by rw [eZ, zsI_no _ _ _ (by omega), zsI_at]; rfl
  have zv2 : Z 14 (5 * nc + 2) = nI L.length := by rw [eZ, zsI_at]; exact C.1
  have zw0 : Z' 4 (60 * tt + 5 * nc) = nI 2 := by rw [eZ', zsI_no _ _ _ (by omega), zsI_no _ _ _ (by omega), zsI_at]; rfl
  clear eZ eZ'
  obtain ⟨ZX, ZC, z9, z13, -, -⟩ := id HZ
  obtain ⟨r, I2, K2, h1, h2, h3, h4, h5⟩ := p_number s11 (σ := σ) (J := J) (J' := J') (lo := 0) (hi := 7) ZX
  rw [h1, zkI_s, h2, zkI_s]
  have f2 := fZ.tr h3.h.i
  have f2' := fZ'.tr ((zFm.h (tt := tt) h4).t).i
  rcases h5 with ⟨rfl, hb⟩ | ⟨rfl, p1, v, l1, l2, l3, l4, l5, l6, l7⟩
  · rw [if_pos rfl, if_pos rfl]
    exact ⟨0, I2, K2, rfl, rfl, by decide, f2, f2', Or.inl ⟨rfl, hb⟩⟩
  have hv7 := (zbd3 l3 (a := 0) (b := 7) rfl rfl (by omega) (by omega) l6 l7).2
  rw [if_neg z10, if_neg z10, l4, l5]
  have C2 : zCo tt L I2 K2 := zCo_c ZC (h3.2 6 (by decide) (by decide) (by decide)) (h3.1 13 (by decide)) (h4.2 12 (by decide) (by decide) (by decide)) (h4.1 2 (by decide)) (h4.1 3 (by decide))
  have H2 : zRd t B tt p1 L m I2 K2 := ⟨l1, C2, by rw [h3.2 9 (by decide) (by decide) (by decide)]; exact z9, by rw [h4.2 13 (by decide) (by decide) (by decide)]; exact z13, hm, hnv.1, by rw [p_num4 s11 ZX h1]; exact HZ.2.2.2.2.2.2⟩
  have H3 : zRd t B tt p1 L m (zsI (zsI I2 14 (5 * nc + 1) (nI v)) 14 (5 * nc + 3) (I2 11 6)) (zsI K2 4 (60 * tt + 5 * nc + 1) (nI v)) := zRd_e H2 (fun k _ => by rw [zsI_ne _ _ _ (by decide), zsI_ne _ _ _ (by decide)]) (by rw [zsI_ne _ _ _ (by decide), zsI_ne _ _ _ (by decide)]) (by rw [zsI_ne _ _ _ (by decide), zsI_ne _ _ _ (by decide)]) (fun k _ => by rw [zsI_ne _ _ _ (by decide)]) (zsI_ne _ _ _ (by decide)) (zsI_ne _ _ _ (by decide)) (zsI_ne _ _ _ (by decide))
  obtain ⟨⟨u1, u2, x1, x2, hp1, UT, u10⟩, -⟩ := id H3
  have hq1 := zru_le (P := zbl B) (t := t) p1 hp1
  have hpq1 := zru_ge (P := zbl B) (t := t) p1
  have hz1 := zru_id (P := zbl B) (t := t) (p := p1)
  have hle1 := zru_le (P := zlr B) (t := t) (zru (zbl B) t p1) hq1
  have hge1 := zru_ge (P := zlr B) (t := t) (zru (zbl B) t p1)
  unfold zTsh
  rw [p_tookW (l := [105, 102]) UT u1 u2 hq1 (by omega) (by decide) rfl (by decide) (by decide), p_see UT p1 _ x2 x1 rfl hp1, zkI_s, p_takesW (C := zsI (zsI I2 14 (5 * nc + 1) (nI v)) 14 (5 * nc + 3) (I2 11 6) 12) (X := 26982) (l := [105, 102]) (by rw [zsI_ne _ _ _ (by decide)]; exact UT) (by rw [zsI_no _ _ _ (by decide)]; exact x1) (zsI_at _ _ _ _) hq1 hz1 rfl (by decide) (by decide) (by decide), zsI_sI, zsI_sI]
  have f3 := (f2.tr (zIc.s (r := 14) (k := 5 * nc + 1) (v := nI v) (by omega))).tr (zIc.s (r := 14) (k := 5 * nc + 3) (v := I2 11 6) (by omega))
  have f3' := f2'.tr (zIm_.s4 (k := 60 * tt + 5 * nc + 1) (v := nI v) (by omega))
  by_cases hif : zww B t (zru (zbl B) t p1) = [105, 102]
  · rw [if_pos hif, if_pos hif, zkI_s, zkI_s, if_neg z10, if_neg z10]
    have H4 := zRd_w H3 hle1
    have l0 : (L ++ ([] : List Nat)).length = L.length := by rw [List.append_nil]
    have r14 : I2 14 = Z 14 := h3.1 14 (by decide)
    have r4 : K2 4 = Z' 4 := h4.1 4 (by decide)
    obtain ⟨r, I4, I4', k1, k2, k3⟩ := p_tail (σ := σ) (J := J) (J' := J') (kd := 2) (shf := v) (ss := L.length) (a := 60 * tt + 5 * nc) (L := L) (M := []) (p := zru (zlr B) t (zru (zbl B) t p1)) (m := m) (B := B) (t := t) (nc := nc) (Z := zsI (zsI (zsI I2 14 (5 * nc + 1) (nI v)) 14 (5 * nc + 3) (I2 11 6)) 11 2 (nI (zru (zbl B) t (zru (zlr B) t (zru (zbl B) t p1))))) (Z' := zsI (zsI K2 4 (60 * tt + 5 * nc + 1) (nI v)) 0 9 (nI (zru (zlr B) t (zru (zbl B) t p1)))) (by rw [List.append_nil]; exact H4) htt (by rw [l0]; omega) X0 hn rfl (fun i hi => by rw [zsI_ne _ _ _ (by decide), zsI_no _ _ _ (by omega), zsI_no _ _ _ (by omega), r14]; exact zA i hi) (fun i hi => by rw [zsI_ne _ _ _ (by decide), zsI_no _ _ _ (by omega), r4]; exact zA' i hi) (by rw [zsI_no _ _ _ (by decide), zsI_ne _ _ _ (by decide), zsI_ne _ _ _ (by decide), h3.2 8 (by decide) (by decide) (by decide)]; exact z8) (by rw [zsI_no _ _ _ (by decide), zsI_ne _ _ _ (by decide), h4.2 15 (by decide) (by decide) (by decide)]; exact z15) (by rw [zsI_ne _ _ _ (by decide), zsI_ne _ _ _ (by decide), h4.1 5 (by decide)]; exact z5) (by rw [zsI_ne _ _ _ (by decide), zsI_no _ _ _ (by omega), zsI_no _ _ _ (by omega), r14]; exact zv0) (by rw [zsI_ne _ _ _ (by decide), zsI_no _ _ _ (by omega), zsI_at]) (by rw [zsI_ne _ _ _ (by decide), zsI_no _ _ _ (by omega), zsI_no _ _ _ (by omega), r14]; exact zv2) (by rw [zsI_ne _ _ _ (by decide), zsI_at, l0]; exact C2.1) (by rw [zsI_ne _ _ _ (by decide), zsI_no _ _ _ (by omega), r4]; exact zw0) (fun h => by omega) (fun _ => by rw [zsI_ne _ _ _ (by decide), zsI_at]) (by omega) hv7 (fun h => absurd rfl h) (fun h => by omega)
    rw [k1, k2]
    exact ⟨r, I4, I4', rfl, rfl, zOq_t k3 (f3.tr (zIc.s (by omega))) (f3'.tr (zIm_.s0 (by omega)))⟩
  · rw [if_neg hif, if_neg hif, zkI_s, zkI_s, if_pos rfl, if_pos rfl, u2, p_failC s11, zsI_at, p_failM (by rw [zsI_no _ _ _ (by decide)]; exact u10)]
    exact ⟨0, _, _, rfl, rfl, by decide, f3.tr (zIc.s (by omega)), (f3'.tr (zIm_.s0 (by omega))).tr (zIm_.s0 (by omega)), Or.inl ⟨rfl, zBad_of (k := 0) rfl (by omega) (by omega)⟩⟩
/-! ===== a rule: lend ===== -/
set_option maxHeartbeats 16000000 in
theorem p_dL {σ : zSg} {J J' : zTJ} {nc t tt q m : Nat} {B : Nat → Nat} {L : List Nat} {I K : zTI} (H : zKw nc t B tt q L m I K) (htt : tt < 6) (hv : zww B t q = [108, 101, 110, 100]) : ∃ r I1 I1', qu_readClause σ I J = some (some (.int r), (zSC σ, I1, J)) ∧ qm_isDoingHere 0 K J' = some (some (.int r), (zSM, I1', J')) ∧ zOq nc t B tt L I K r I1 I1' := by
  obtain ⟨HR, hz, e8, e5, e15, hn, X0, hL, hne⟩ := H
  obtain ⟨⟨a1, a2, b1, b2, hq, T, b10⟩, C, e9, e13, hm, hnv⟩ := id HR
  rw [hz] at a2
  have ht := T.1
  have hle := zru_le (P := zlr B) (t := t) q hq
  have hlt := zww_lt hne
  have hps := p_pass (J := J') T q K b2 b1 rfl hq
  rw [p_rcL T a1 a2 hq hv e8 hn, p_dhL (a := 60 * tt + 5 * nc) hps (by rw [zsI_no _ _ _ (by decide)]; exact C.2.1) (by rw [zsI_ne _ _ _ (by decide)]; exact e5) htt hn rfl]
  have HW := zRd_w HR hle
  unfold zW7
  have hZ : ∃ Z Z', Z = (zsI (zsI (zsI (zsI I 11 2 (nI (zru (zbl B) t (zru (zlr B) t q)))) 11 8 (nI (nc + 1))) 14 (5 * nc + 0) 0) 14 (5 * nc + 2) (I 11 6)) ∧ Z' = (zsI (zsI (zsI (zsI K 0 9 (nI (zru (zlr B) t q))) 4 (60 * tt + 5 * nc) 0) 4 (60 * tt + 5 * nc + 1) (zsI K 0 9 (nI (zru (zlr B) t q)) 3 tt)) 4 (60 * tt + 5 * nc + 3) (-1)) := ⟨_, _, rfl, rfl⟩
  obtain ⟨Z, Z', eZ, eZ'⟩ := hZ
  rw [← eZ, ← eZ']
  have HZ : zRd t B tt (zru (zlr B) t q) L m Z Z' := by
    rw [eZ, eZ']
    refine zRd_e HW (fun k hk => ?_) ?_ ?_ (fun k hk => ?_) ?_ ?_ ?_
    · rw [zsI_ne _ _ _ (by decide), zsI_ne _ _ _ (by decide), zsI_no _ _ _ (by omega)]
    · rw [zsI_ne _ _ _ (by decide), zsI_ne _ _ _ (by decide), zsI_ne _ _ _ (by decide)]
    · rw [zsI_ne _ _ _ (by decide), zsI_ne _ _ _ (by decide), zsI_ne _ _ _ (by decide)]
    · rw [zsI_ne _ _ _ (by decide), zsI_ne _ _ _ (by decide), zsI_ne _ _ _ (by decide)]
    · rw [zsI_ne _ _ _ (by decide), zsI_ne _ _ _ (by decide), zsI_ne _ _ _ (by decide)]
    · rw [zsI_ne _ _ _ (by decide), zsI_ne _ _ _ (by decide), zsI_ne _ _ _ (by decide)]
    · rw [zsI_ne _ _ _ (by decide), zsI_ne _ _ _ (by decide), zsI_ne _ _ _ (by decide)]
  have fZ : zIc I Z := by rw [eZ]; exact (((zIc.s (by omega)).tr (zIc.s (by omega))).tr (zIc.s (by omega))).tr (zIc.s (by omega))
  have fZ' : zIm_ tt K Z' := by rw [eZ']; exact (((zIm_.s0 (by omega)).tr (zIm_.s4 (by omega))).tr (zIm_.s4 (by omega))).tr (zIm_.s4 (by omega))
  have zA : ∀ i, i < 5 * nc → Z 14 i = I 14 i := fun i hi => by rw [eZ, zsI_no _ _ _ (by omega), zsI_no _ _ _ (by omega), zsI_ne _ _ _ (by decide), zsI_ne _ _ _ (by decide)]
  have zA' : ∀ i, i < 60 * tt + 5 * nc → Z' 4 i = K 4 i := fun i hi => by rw [eZ', zsI_no _ _ _ (by omega), zsI_no _ _ _ (by omega), zsI_no _ _ _ (by omega), zsI_ne _ _ _ (by decide)]
  have z8 : Z 11 8 = nI (nc + 1) := by rw [eZ, zsI_ne _ _ _ (by decide), zsI_ne _ _ _ (by decide), zsI_at]
  have z15 : Z' 0 15 = nI (nc + 1) := by rw [eZ', zsI_ne _ _ _ (by decide), zsI_ne _ _ _ (by decide), zsI_ne _ _ _ (by decide), zsI_no _ _ _ (by decide)]; exact e15
  have z5 : Z' 5 tt = nI nc := by rw [eZ', zsI_ne _ _ _ (by decide), zsI_ne _ _ _ (by decide), zsI_ne _ _ _ (by decide), zsI_ne _ _ _ (by decide)]; exact e5
  have zv0 : Z 14 (5 * nc + 0) = nI 0 := by rw [eZ, zsI_no _ _ _ (by omega), zsI_at]; rfl
  have zv2 : Z 14 (5 * nc + 2) = nI L.length := by rw [eZ, zsI_at]; exact C.1
  have zw0 : Z' 4 (60 * tt + 5 * nc) = nI 0 := by rw [eZ', zsI_no _ _ _ (by omega), zsI_no _ _ _ (by omega), zsI_at]; rfl
  have zw1 : Z' 4 (60 * tt + 5 * nc + 1) = nI L.length := by rw [eZ', zsI_no _ _ _ (by omega), zsI_at, zsI_ne _ _ _ (by decide)]; exact C.2.2.1
  have zw3 : Z' 4 (60 * tt + 5 * nc + 3) = -1 := by rw [eZ', zsI_at]
  clear eZ eZ'
  obtain ⟨r, I2, K2, h1, h2, h3, h4, h5⟩ := p_sum (σ := σ) (J := J) (J' := J') HZ htt (by omega)
  rw [h1, zkI_s, h2, zkI_s]
  have f2 := fZ.tr h3.i
  have f2' := fZ'.tr h4.t.i
  rcases h5 with ⟨rfl, hb⟩ | ⟨rfl, p1, m1, L1, y1, y2, H2, y4, y5⟩
  · rw [if_pos rfl, if_pos rfl]
    exact ⟨0, I2, K2, rfl, rfl, by decide, f2, f2', Or.inl ⟨rfl, hb⟩⟩
  obtain ⟨-, C2, -⟩ := id H2
  have e00 : zpn none = 0 := rfl
  rw [if_neg z10, if_neg z10, C2.2.1, zif_n (show tt < 7 by omega) (by omega), ztnn (by omega)]
  have H3 : zRd t B tt p1 (L ++ L1) m1 (zsI (zsI I2 14 (5 * nc + 1) 0) 14 (5 * nc + 3) (I2 11 6)) (zsI K2 4 (60 * tt + 5 * nc + 2) (K2 3 tt)) := zRd_e H2 (fun k _ => by rw [zsI_ne _ _ _ (by decide), zsI_ne _ _ _ (by decide)]) (by rw [zsI_ne _ _ _ (by decide), zsI_ne _ _ _ (by decide)]) (by rw [zsI_ne _ _ _ (by decide), zsI_ne _ _ _ (by decide)]) (fun k _ => by rw [zsI_ne _ _ _ (by decide)]) (zsI_ne _ _ _ (by decide)) (zsI_ne _ _ _ (by decide)) (zsI_ne _ _ _ (by decide))
  obtain ⟨⟨u1, u2, x1, x2, hp1, UT, u10⟩, -⟩ := id H3
  have hq1 := zru_le (P := zbl B) (t := t) p1 hp1
  have hpq1 := zru_ge (P := zbl B) (t := t) p1
  have hle1 := zru_le (P := zlr B) (t := t) (zru (zbl B) t p1) hq1
  have hge1 := zru_ge (P := zlr B) (t := t) (zru (zbl B) t p1)
  unfold zTl
  rw [p_tookW (l := [105, 102]) UT u1 u2 hq1 (by omega) (by decide) rfl (by decide) (by decide), p_takesW (X := 26982) (l := [105, 102]) UT x1 x2 hp1 rfl rfl (by decide) (by decide) (by decide)]
  have f3 := (f2.tr (zIc.s (r := 14) (k := 5 * nc + 1) (v := 0) (by omega))).tr (zIc.s (r := 14) (k := 5 * nc + 3) (v := I2 11 6) (by omega))
  have f3' := f2'.tr (zIm_.s4 (k := 60 * tt + 5 * nc + 2) (v := K2 3 tt) (by omega))
  have r14 : I2 14 = Z 14 := h3.1 14 (by decide) (by decide)
  have r4 : K2 4 = Z' 4 := h4.1 4 (by decide) (by decide) (by decide)
  have r5 : K2 5 tt = nI nc := by rw [h4.1 5 (by decide) (by decide) (by decide)]; exact z5
  have r8 : I2 11 8 = nI (nc + 1) := by rw [h3.2 8 (by decide) (by decide) (by decide) (by decide) (by decide)]; exact z8
  have r15 : K2 0 15 = nI (nc + 1) := by rw [h4.2.1 15 (by decide) (by decide) (by decide) (by decide)]; exact z15
  have sty : zty (zsg_ (L ++ L1) L.length (L ++ L1).length) [] = some [false] := by
    rw [zsg_new]
    exact y5 []
  have hll : (L ++ L1).length ≤ p1 := by rw [List.length_append]; omega
  have hl0 : L.length ≤ (L ++ L1).length := by rw [List.length_append]; omega
  by_cases hif : zww B t (zru (zbl B) t p1) = [105, 102]
  · rw [if_pos hif, if_pos hif, zkI_s, zkI_s, if_neg z10, if_neg z10]
    have H4 := zRd_w H3 hle1
    obtain ⟨r, I4, I4', k1, k2, k3⟩ := p_tail (σ := σ) (J := J) (J' := J') (kd := 0) (shf := 0) (ss := L.length) (a := 60 * tt + 5 * nc) H4 htt (by omega) X0 hn rfl (fun i hi => by rw [zsI_ne _ _ _ (by decide), zsI_no _ _ _ (by omega), zsI_no _ _ _ (by omega), r14]; exact zA i hi) (fun i hi => by rw [zsI_ne _ _ _ (by decide), zsI_no _ _ _ (by omega), r4]; exact zA' i hi) (by rw [zsI_no _ _ _ (by decide), zsI_ne _ _ _ (by decide), zsI_ne _ _ _ (by decide)]; exact r8) (by rw [zsI_no _ _ _ (by decide), zsI_ne _ _ _ (by decide)]; exact r15) (by rw [zsI_ne _ _ _ (by decide), zsI_ne _ _ _ (by decide)]; exact r5) (by rw [zsI_ne _ _ _ (by decide), zsI_no _ _ _ (by omega), zsI_no _ _ _ (by omega), r14]; exact zv0) (by rw [zsI_ne _ _ _ (by decide), zsI_no _ _ _ (by omega), zsI_at]; rfl) (by rw [zsI_ne _ _ _ (by decide), zsI_no _ _ _ (by omega), zsI_no _ _ _ (by omega), r14]; exact zv2) (by rw [zsI_ne _ _ _ (by decide), zsI_at]; exact C2.1) (by rw [zsI_ne _ _ _ (by decide), zsI_no _ _ _ (by omega), r4]; exact zw0) (fun _ => ⟨by rw [zsI_ne _ _ _ (by decide), zsI_no _ _ _ (by omega), r4]; exact zw1, by rw [zsI_ne _ _ _ (by decide), zsI_at]; exact C2.2.2.1⟩) (fun h => by omega) (by omega) (by omega) (fun _ => rfl) (fun _ => ⟨hl0, sty⟩)
    rw [k1, k2]
    exact ⟨r, I4, I4', rfl, rfl, zOq_t k3 (f3.tr (zIc.s (by omega))) (f3'.tr (zIm_.s0 (by omega)))⟩
  · rw [if_neg hif, if_neg hif, zkI_s, zkI_s, if_pos rfl, if_pos rfl, p_De (tt := tt) (nc := nc) (by rw [zsI_no _ _ _ (by decide), zsI_ne _ _ _ (by decide)]; exact C2.2.1) (by rw [zsI_ne _ _ _ (by decide), zsI_ne _ _ _ (by decide)]; exact r5) htt (by omega)]
    have H4 := zRd_q H3
    refine ⟨1, _, _, rfl, rfl, by decide, f3.tr (zIc.s (by omega)), ((f3'.tr (zIm_.s0 (by omega))).tr (zIm_.s4 (by omega))).tr zIm_.s5, Or.inr ⟨rfl, hn, _, m1, L1, zQl_fin (kd := 0) (shf := 0) (ss := L.length) (ts := (L ++ L1).length) H4 (by omega) X0 hn rfl (fun i hi => by rw [zsI_no _ _ _ (by omega), zsI_no _ _ _ (by omega), r14]; exact zA i hi) (fun i hi => by rw [zsI_ne _ _ _ (by decide), zsI_no _ _ _ (by omega), r4]; exact zA' i hi) (by rw [zsI_ne _ _ _ (by decide), zsI_ne _ _ _ (by decide)]; exact r8) (by rw [zsI_no _ _ _ (by decide), zsI_ne _ _ _ (by decide)]; exact r15) (by rw [zsI_no _ _ _ (by omega), zsI_no _ _ _ (by omega), r14]; exact zv0) (by rw [zsI_no _ _ _ (by omega), zsI_at]; rfl) (by rw [zsI_no _ _ _ (by omega), zsI_no _ _ _ (by omega), r14]; exact zv2) (by rw [zsI_at]; exact C2.1) (by rw [zsI_ne _ _ _ (by decide), zsI_no _ _ _ (by omega), r4]; exact zw0) (fun _ => ⟨by rw [zsI_ne _ _ _ (by decide), zsI_no _ _ _ (by omega), r4]; exact zw1, by rw [zsI_ne _ _ _ (by decide), zsI_at]; exact C2.2.2.1⟩) (fun h => by omega) (by rw [zsI_ne _ _ _ (by decide), zsI_no _ _ _ (by omega), r4, if_pos rfl]; exact zw3) (by omega) (by omega) (fun _ => rfl) (Nat.le_refl _) (fun h => absurd rfl h) (fun _ => ⟨hl0, sty⟩)⟩⟩
