/-! ===== a river: one more of a kind ===== -/
set_option maxHeartbeats 4000000 in
theorem zRv_barge {nb nk ns nr nh v0 v1 v2 v3 : Nat} {C R : Nat → Int32} (V : zRv nb nk ns nr nh C R) (hn : nb < 2) (h0 : 1 ≤ v0 ∧ v0 ≤ 8) (h1 : v1 ≤ 9999) (h2 : 1 ≤ v2 ∧ v2 ≤ 99) (h3 : 1 ≤ v3 ∧ v3 ≤ 999) {C' R' : Nat → Int32} (eC : C' = upd (upd (upd (upd (upd C 84 (nI (nb + 1))) (89 + nb) (nI v0)) (91 + nb) (nI v1)) (93 + nb) (nI v2)) (95 + nb) (nI v3)) (eR : R' = upd (upd (upd (upd (upd (upd (upd (upd R (6 + 7 * nb + 0) (nI v0)) (6 + 7 * nb + 1) (nI v1)) (6 + 7 * nb + 2) (nI v2)) (6 + 7 * nb + 3) (nI v3)) (6 + 7 * nb + 4) 0) (6 + 7 * nb + 5) 0) (6 + 7 * nb + 6) 0) 0 (nI (nb + 1))) : zRv (nb + 1) nk ns nr nh C' R' := by
  obtain ⟨⟨n0, n1, n2, n3, n4⟩, ⟨s0, s1, s2, s3, s4⟩, ⟨c0, c1, c2, c3, c4⟩, e5, hB, hK, hS, hR, hH, hZ, h00⟩ := V
  have fC : ∀ i, ¬ (i = 84 ∨ i = 89 + nb ∨ i = 91 + nb ∨ i = 93 + nb ∨ i = 95 + nb) → C' i = C i := fun i a => by
    rw [eC, u_no (by omega), u_no (by omega), u_no (by omega), u_no (by omega), u_no (by omega)]
  have fR : ∀ i, ¬ (i = 0 ∨ 6 + 7 * nb ≤ i ∧ i < 6 + 7 * nb + 7) → R' i = R i := fun i a => by
    rw [eR, u_no (by omega), u_no (by omega), u_no (by omega), u_no (by omega), u_no (by omega), u_no (by omega), u_no (by omega), u_no (by omega)]
  have N : zIb C' R' nb := by
    refine ⟨v0, v1, v2, v3, h0, h1, h2, h3, ?_, ?_, ?_, ?_, ?_, ?_, ?_, ?_, ?_, ?_, ?_⟩
    · rw [eC, u_no (by omega), u_no (by omega), u_no (by omega), u_at]
    · rw [eC, u_no (by omega), u_no (by omega), u_at]
    · rw [eC, u_no (by omega), u_at]
    · rw [eC, u_at]
    · rw [eR, u_no (by omega), u_no (by omega), u_no (by omega), u_no (by omega), u_no (by omega), u_no (by omega), u_no (by omega), u_at]
    · rw [eR, u_no (by omega), u_no (by omega), u_no (by omega), u_no (by omega), u_no (by omega), u_no (by omega), u_at]
    · rw [eR, u_no (by omega), u_no (by omega), u_no (by omega), u_no (by omega), u_no (by omega), u_at]
    · rw [eR, u_no (by omega), u_no (by omega), u_no (by omega), u_no (by omega), u_at]
    · rw [eR, u_no (by omega), u_no (by omega), u_no (by omega), u_at]
    · rw [eR, u_no (by omega), u_no (by omega), u_at]
    · rw [eR, u_no (by omega), u_at]
  refine ⟨⟨by omega, n1, n2, n3, n4⟩, ⟨by rw [eR, u_at], (fR 1 (by omega)).trans s1, (fR 2 (by omega)).trans s2, (fR 3 (by omega)).trans s3, (fR 4 (by omega)).trans s4⟩, ⟨by rw [eC, u_no (by omega), u_no (by omega), u_no (by omega), u_no (by omega), u_at], (fC 85 (by omega)).trans c1, (fC 86 (by omega)).trans c2, (fC 87 (by omega)).trans c3, (fC 88 (by omega)).trans c4⟩, (fR 5 (by omega)).trans e5, fun b hb => ?_, fun k hk => zIk_c (hK k hk) (by omega) (fun i hi => fC i (by omega)) (fun j hj => fR j (by omega)) (fun b hb => fR _ (by omega)), fun s hs => zIs_c (hS s hs) (fun i hi => fC i (by omega)) (fun j hj => fR j (by omega)), fun r hr => zIr_c (hR r hr) (by omega) (fun i hi => fC i (by omega)) (fun j hj => fR j (by omega)), fun h hh => zIh_c (hH h hh) (by omega) (fun i hi => fC i (by omega)) (fun j hj => fR j (by omega)), zZr_c hZ (by omega) (fun i hi => fC i (by omega)), fun h => by omega⟩
  by_cases q : b = nb
  · subst q
    exact N
  · exact zIb_c (hB b (by omega)) (fun i hi => fC i (by omega)) (fun j hj => fR j (by omega))
set_option maxHeartbeats 4000000 in
theorem zRv_hole {nb nk ns nr nh v0 v1 : Nat} {C R : Nat → Int32} (V : zRv nb nk ns nr nh C R) (hn : nh < 4) (h0 : v0 < nb) (h1 : 1 ≤ v1 ∧ v1 ≤ 99) {C' R' : Nat → Int32} (eC : C' = upd (upd (upd C 88 (nI (nh + 1))) (243 + nh) (nI v0)) (247 + nh) (nI v1)) (eR : R' = upd (upd (upd (upd R (246 + 3 * nh + 0) (nI v0)) (246 + 3 * nh + 1) (nI v1)) (246 + 3 * nh + 2) 0) 4 (nI (nh + 1))) : zRv nb nk ns nr (nh + 1) C' R' := by
  obtain ⟨⟨n0, n1, n2, n3, n4⟩, ⟨s0, s1, s2, s3, s4⟩, ⟨c0, c1, c2, c3, c4⟩, e5, hB, hK, hS, hR, hH, hZ, h00⟩ := V
  have fC : ∀ i, ¬ (i = 88 ∨ i = 243 + nh ∨ i = 247 + nh) → C' i = C i := fun i a => by
    rw [eC, u_no (by omega), u_no (by omega), u_no (by omega)]
  have fR : ∀ i, ¬ (i = 4 ∨ 246 + 3 * nh ≤ i ∧ i < 246 + 3 * nh + 3) → R' i = R i := fun i a => by
    rw [eR, u_no (by omega), u_no (by omega), u_no (by omega), u_no (by omega)]
  have N : zIh nb C' R' nh := by
    refine ⟨v0, v1, h0, h1, ?_, ?_, ?_, ?_, ?_⟩
    · rw [eC, u_no (by omega), u_at]
    · rw [eC, u_at]
    · rw [eR, u_no (by omega), u_no (by omega), u_no (by omega), u_at]
    · rw [eR, u_no (by omega), u_no (by omega), u_at]
    · rw [eR, u_no (by omega), u_at]
  refine ⟨⟨n0, n1, n2, n3, by omega⟩, ⟨(fR 0 (by omega)).trans s0, (fR 1 (by omega)).trans s1, (fR 2 (by omega)).trans s2, (fR 3 (by omega)).trans s3, by rw [eR, u_at]⟩, ⟨(fC 84 (by omega)).trans c0, (fC 85 (by omega)).trans c1, (fC 86 (by omega)).trans c2, (fC 87 (by omega)).trans c3, by rw [eC, u_no (by omega), u_no (by omega), u_at]⟩, (fR 5 (by omega)).trans e5, fun b hb => zIb_c (hB b hb) (fun i hi => fC i (by omega)) (fun j hj => fR j (by omega)), fun k hk => zIk_c (hK k hk) (by omega) (fun i hi => fC i (by omega)) (fun j hj => fR j (by omega)) (fun b hb => fR _ (by omega)), fun s hs => zIs_c (hS s hs) (fun i hi => fC i (by omega)) (fun j hj => fR j (by omega)), fun r hr => zIr_c (hR r hr) (by omega) (fun i hi => fC i (by omega)) (fun j hj => fR j (by omega)), fun h hh => ?_, zZr_c hZ (by omega) (fun i hi => fC i (by omega)), fun h => by omega⟩
  by_cases q : h = nh
  · subst q
    exact N
  · exact zIh_c (hH h (by omega)) (by omega) (fun i hi => fC i (by omega)) (fun j hj => fR j (by omega))
set_option maxHeartbeats 4000000 in
theorem zRv_book {nb nk ns nr nh v0 v1 vb v3 : Nat} {C R : Nat → Int32} (V : zRv nb nk ns nr nh C R) (hn : nk < 12) (h0 : 1 ≤ v0 ∧ v0 ≤ 99) (h1 : v1 ≤ 99) (h2 : vb < nb) (h3 : ¬ (R (6 + 7 * vb + 0) - 1 < nI v3)) (h4 : v3 < 100000) {C' R' : Nat → Int32} (eC : C' = upd (upd (upd (upd (upd C 85 (nI (nk + 1))) (97 + nk) (nI v0)) (109 + nk) (nI v1)) (47 + nk) (100 + nI vb)) (23 + nk) (nI v3)) (eR : R' = upd (upd (upd (upd (upd (upd (upd (upd R (20 + 7 * nk + 0) (nI v0)) (20 + 7 * nk + 1) (nI v1)) (20 + 7 * nk + 4) (100 + nI vb)) (20 + 7 * nk + 3) (nI v3)) (20 + 7 * nk + 2) 0) (20 + 7 * nk + 5) 0) (20 + 7 * nk + 6) (-1)) 1 (nI (nk + 1))) : zRv nb (nk + 1) ns nr nh C' R' := by
  obtain ⟨⟨n0, n1, n2, n3, n4⟩, ⟨s0, s1, s2, s3, s4⟩, ⟨c0, c1, c2, c3, c4⟩, e5, hB, hK, hS, hR, hH, hZ, h00⟩ := V
  have fC : ∀ i, ¬ (i = 85 ∨ i = 97 + nk ∨ i = 109 + nk ∨ i = 47 + nk ∨ i = 23 + nk) → C' i = C i := fun i a => by
    rw [eC, u_no (by omega), u_no (by omega), u_no (by omega), u_no (by omega), u_no (by omega)]
  have fR : ∀ i, ¬ (i = 1 ∨ 20 + 7 * nk ≤ i ∧ i < 20 + 7 * nk + 7) → R' i = R i := fun i a => by
    rw [eR, u_no (by omega), u_no (by omega), u_no (by omega), u_no (by omega), u_no (by omega), u_no (by omega), u_no (by omega), u_no (by omega)]
  have N : zIk nb C' R' nk := by
    obtain ⟨w0, w1, w2, w3, ⟨a0, a1⟩, -, -, -, -, -, -, -, b0, -⟩ := hB vb h2
    rw [b0, show nI w0 - 1 = nI (w0 - 1) from z_sub1 (k := 1) a0] at h3
    have h5 : v3 < w0 := by
      have : ¬ w0 - 1 < v3 := fun h' => h3 (nI_lt h' (by omega))
      omega
    refine ⟨v0, v1, vb, v3, h0, h1, h2, by omega, ?_, ?_, ?_, ?_, ?_, ?_, ?_, ?_, ?_, ?_, ?_, ?_⟩
    · rw [fR _ (by omega), b0]
      exact nI_lt h5 (by omega)
    · rw [eC, u_no (by omega), u_no (by omega), u_no (by omega), u_at]
    · rw [eC, u_no (by omega), u_no (by omega), u_at]
    · rw [eC, u_no (by omega), u_at]
    · rw [eC, u_at]
    · rw [eR, u_no (by omega), u_no (by omega), u_no (by omega), u_no (by omega), u_no (by omega), u_no (by omega), u_no (by omega), u_at]
    · rw [eR, u_no (by omega), u_no (by omega), u_no (by omega), u_no (by omega), u_no (by omega), u_no (by omega), u_at]
    · rw [eR, u_no (by omega), u_no (by omega), u_no (by omega), u_at]
    · rw [eR, u_no (by omega), u_no (by omega), u_no (by omega), u_no (by omega), u_at]
    · rw [eR, u_no (by omega), u_no (by omega), u_no (by omega), u_no (by omega), u_no (by omega), u_at]
    · rw [eR, u_no (by omega), u_no (by omega), u_at]
    · rw [eR, u_no (by omega), u_at]
  refine ⟨⟨n0, by omega, n2, n3, n4⟩, ⟨(fR 0 (by omega)).trans s0, by rw [eR, u_at], (fR 2 (by omega)).trans s2, (fR 3 (by omega)).trans s3, (fR 4 (by omega)).trans s4⟩, ⟨(fC 84 (by omega)).trans c0, by rw [eC, u_no (by omega), u_no (by omega), u_no (by omega), u_no (by omega), u_at], (fC 86 (by omega)).trans c2, (fC 87 (by omega)).trans c3, (fC 88 (by omega)).trans c4⟩, (fR 5 (by omega)).trans e5, fun b hb => zIb_c (hB b hb) (fun i hi => fC i (by omega)) (fun j hj => fR j (by omega)), fun k hk => ?_, fun s hs => zIs_c (hS s hs) (fun i hi => fC i (by omega)) (fun j hj => fR j (by omega)), fun r hr => zIr_c (hR r hr) (by omega) (fun i hi => fC i (by omega)) (fun j hj => fR j (by omega)), fun h hh => zIh_c (hH h hh) (by omega) (fun i hi => fC i (by omega)) (fun j hj => fR j (by omega)), zZr_c hZ (by omega) (fun i hi => fC i (by omega)), fun h => by omega⟩
  by_cases q : k = nk
  · subst q
    exact N
  · exact zIk_c (hK k (by omega)) (by omega) (fun i hi => fC i (by omega)) (fun j hj => fR j (by omega)) (fun b hb => fR _ (by omega))
set_option maxHeartbeats 4000000 in
theorem zRv_reader {nb nk ns nr nh v0 v1 v2 : Nat} {C R : Nat → Int32} (V : zRv nb nk ns nr nh C R) (hn : nr < 6) (h0 : v0 < ns) (h1 : v1 ≤ 9) (h2 : 1 ≤ v2 ∧ v2 ≤ 99) {C' R' : Nat → Int32} (eC : C' = upd (upd (upd (upd C 87 (nI (nr + 1))) (153 + nr) (nI v0)) (159 + nr) (nI v1)) (165 + nr) (nI v2)) (eR : R' = upd (fun i => if 174 + 12 * nr + 0 ≤ i ∧ i < 174 + 12 * nr + 12 then 0 else upd (upd (upd (upd (upd R (144 + 5 * nr + 0) (nI v0)) (144 + 5 * nr + 1) (nI v1)) (144 + 5 * nr + 2) (nI v2)) (144 + 5 * nr + 3) (-1)) (144 + 5 * nr + 4) 0 i) 3 (nI (nr + 1))) : zRv nb nk ns (nr + 1) nh C' R' := by
  obtain ⟨⟨n0, n1, n2, n3, n4⟩, ⟨s0, s1, s2, s3, s4⟩, ⟨c0, c1, c2, c3, c4⟩, e5, hB, hK, hS, hR, hH, hZ, h00⟩ := V
  have fC : ∀ i, ¬ (i = 87 ∨ i = 153 + nr ∨ i = 159 + nr ∨ i = 165 + nr) → C' i = C i := fun i a => by
    rw [eC, u_no (by omega), u_no (by omega), u_no (by omega), u_no (by omega)]
  have gR : ∀ i, i ≠ 3 → ¬ (174 + 12 * nr ≤ i ∧ i < 174 + 12 * nr + 12) → R' i = upd (upd (upd (upd (upd R (144 + 5 * nr + 0) (nI v0)) (144 + 5 * nr + 1) (nI v1)) (144 + 5 * nr + 2) (nI v2)) (144 + 5 * nr + 3) (-1)) (144 + 5 * nr + 4) 0 i := fun i a b => by
    rw [eR, u_no (by omega), if_neg (by omega)]
  have fR : ∀ i, ¬ (i = 3 ∨ (144 + 5 * nr ≤ i ∧ i < 144 + 5 * nr + 5) ∨ (174 + 12 * nr ≤ i ∧ i < 174 + 12 * nr + 12)) → R' i = R i := fun i a => by
    rw [gR i (by omega) (by omega), u_no (by omega), u_no (by omega), u_no (by omega), u_no (by omega), u_no (by omega)]
  have N : zIr ns C' R' nr := by
    refine ⟨v0, v1, v2, h0, h1, h2, ?_, ?_, ?_, ?_, ?_, ?_, ?_, ?_, fun k hk => ⟨0, by omega, ?_, ?_⟩⟩
    · rw [eC, u_no (by omega), u_no (by omega), u_at]
    · rw [eC, u_no (by omega), u_at]
    · rw [eC, u_at]
    · rw [gR _ (by omega) (by omega), u_no (by omega), u_no (by omega), u_no (by omega), u_no (by omega), u_at]
    · rw [gR _ (by omega) (by omega), u_no (by omega), u_no (by omega), u_no (by omega), u_at]
    · rw [gR _ (by omega) (by omega), u_no (by omega), u_no (by omega), u_at]
    · rw [gR _ (by omega) (by omega), u_no (by omega), u_at]
    · rw [gR _ (by omega) (by omega), u_at]
    · rw [fC _ (by omega), hZ.2.2.2 _ (by omega) (by omega)]
      rfl
    · rw [eR, u_no (by omega), if_pos (by omega)]
      rfl
  refine ⟨⟨n0, n1, n2, by omega, n4⟩, ⟨(fR 0 (by omega)).trans s0, (fR 1 (by omega)).trans s1, (fR 2 (by omega)).trans s2, by rw [eR, u_at], (fR 4 (by omega)).trans s4⟩, ⟨(fC 84 (by omega)).trans c0, (fC 85 (by omega)).trans c1, (fC 86 (by omega)).trans c2, by rw [eC, u_no (by omega), u_no (by omega), u_no (by omega), u_at], (fC 88 (by omega)).trans c4⟩, (fR 5 (by omega)).trans e5, fun b hb => zIb_c (hB b hb) (fun i hi => fC i (by omega)) (fun j hj => fR j (by omega)), fun k hk => zIk_c (hK k hk) (by omega) (fun i hi => fC i (by omega)) (fun j hj => fR j (by omega)) (fun b hb => fR _ (by omega)), fun s hs => zIs_c (hS s hs) (fun i hi => fC i (by omega)) (fun j hj => fR j (by omega)), fun r hr => ?_, fun h hh => zIh_c (hH h hh) (by omega) (fun i hi => fC i (by omega)) (fun j hj => fR j (by omega)), zZr_c hZ (by omega) (fun i hi => fC i (by omega)), fun h => by omega⟩
  by_cases q : r = nr
  · subst q
    exact N
  · exact zIr_c (hR r (by omega)) (by omega) (fun i hi => fC i (by omega)) (fun j hj => fR j (by omega))
set_option maxHeartbeats 4000000 in
theorem zRv_wish {nb nk ns nr nh v0 v1 v2 : Nat} {C R : Nat → Int32} (V : zRv nb nk ns nr nh C R) (h0 : v0 < nr) (h1 : v1 < nk) (h2 : 1 ≤ v2 ∧ v2 ≤ 99) {C' R' : Nat → Int32} (eC : C' = upd C (171 + (12 * v0 + v1)) (nI v2)) (eR : R' = upd R (174 + 12 * v0 + v1) (nI v2)) : zRv nb nk ns nr nh C' R' := by
  obtain ⟨⟨n0, n1, n2, n3, n4⟩, ⟨s0, s1, s2, s3, s4⟩, ⟨c0, c1, c2, c3, c4⟩, e5, hB, hK, hS, hR, hH, hZ, h00⟩ := V
  have fC : ∀ i, ¬ (i = 171 + (12 * v0 + v1)) → C' i = C i := fun i a => by
    rw [eC, u_no (by omega)]
  have fR : ∀ i, ¬ (i = 174 + 12 * v0 + v1) → R' i = R i := fun i a => by
    rw [eR, u_no (by omega)]
  refine ⟨⟨n0, n1, n2, n3, n4⟩, ⟨(fR 0 (by omega)).trans s0, (fR 1 (by omega)).trans s1, (fR 2 (by omega)).trans s2, (fR 3 (by omega)).trans s3, (fR 4 (by omega)).trans s4⟩, ⟨(fC 84 (by omega)).trans c0, (fC 85 (by omega)).trans c1, (fC 86 (by omega)).trans c2, (fC 87 (by omega)).trans c3, (fC 88 (by omega)).trans c4⟩, (fR 5 (by omega)).trans e5, fun b hb => zIb_c (hB b hb) (fun i hi => fC i (by omega)) (fun j hj => fR j (by omega)), fun k hk => zIk_c (hK k hk) (by omega) (fun i hi => fC i (by omega)) (fun j hj => fR j (by omega)) (fun b hb => fR _ (by omega)), fun s hs => zIs_c (hS s hs) (fun i hi => fC i (by omega)) (fun j hj => fR j (by omega)), fun r hr => ?_, fun h hh => zIh_c (hH h hh) (by omega) (fun i hi => fC i (by omega)) (fun j hj => fR j (by omega)), zZr_c hZ (by omega) (fun i hi => fC i (by omega)), h00⟩
  by_cases q : r = v0
  · subst q
    obtain ⟨w0, w1, w2, g0, g1, g2, a0, a1, a2, r0, r1, r2, r3, r4, g3⟩ := hR r hr
    refine ⟨w0, w1, w2, g0, g1, g2, (fC _ (by omega)).trans a0, (fC _ (by omega)).trans a1, (fC _ (by omega)).trans a2, (fR _ (by omega)).trans r0, (fR _ (by omega)).trans r1, (fR _ (by omega)).trans r2, (fR _ (by omega)).trans r3, (fR _ (by omega)).trans r4, fun k hk => ?_⟩
    by_cases qk : k = v1
    · subst qk
      exact ⟨v2, by omega, by rw [eC, u_at], by rw [eR, u_at]⟩
    · rw [fC _ (by omega), fR _ (by omega)]
      exact g3 k hk
  · exact zIr_c (hR r hr) (by omega) (fun i hi => fC i (by omega)) (fun j hj => fR j (by omega))
set_option maxHeartbeats 4000000 in
theorem zRv_stop {nb nk ns nr nh n : Nat} {C R R1 : Nat → Int32} (V : zRv nb nk ns nr nh C R) (hb : 1 ≤ nb) (hn : ns < 8) (h0 : 1 ≤ n) (h1 : n ≤ 4) (h2 : R1 (104 + 5 * ns) = nI n) {C' R' : Nat → Int32} (S : zSv (121 + 4 * ns) (104 + 5 * ns) n C' R1 (upd C 86 (nI (ns + 1))) R) (eR : R' = upd R1 2 (nI (ns + 1))) : zRv nb nk (ns + 1) nr nh C' R' := by
  obtain ⟨⟨n0, n1, n2, n3, n4⟩, ⟨s0, s1, s2, s3, s4⟩, ⟨c0, c1, c2, c3, c4⟩, e5, hB, hK, hS, hR, hH, hZ, h00⟩ := V
  obtain ⟨v1, v2, v3, v4⟩ := S
  have fC : ∀ i, ¬ (i = 86 ∨ 121 + 4 * ns ≤ i ∧ i < 121 + 4 * ns + 4) → C' i = C i := fun i a => by
    rw [v3 i (by omega), u_no (by omega)]
  have fR : ∀ i, ¬ (i = 2 ∨ 104 + 5 * ns ≤ i ∧ i < 104 + 5 * ns + 5) → R' i = R i := fun i a => by
    rw [eR, u_no (by omega), v4 i (by omega)]
  have N : zIs C' R' ns := by
    refine ⟨n, h0, h1, ?_, fun j hj => ?_, fun i hi => ?_⟩
    · rw [eR, u_no (by omega), h2]
    · rw [eR, u_no (by omega)]
      exact v1 (by omega) j hj
    · rw [eR, u_no (by omega)]
      exact v2 i hi
  refine ⟨⟨n0, n1, by omega, n3, n4⟩, ⟨(fR 0 (by omega)).trans s0, (fR 1 (by omega)).trans s1, by rw [eR, u_at], (fR 3 (by omega)).trans s3, (fR 4 (by omega)).trans s4⟩, ⟨(fC 84 (by omega)).trans c0, (fC 85 (by omega)).trans c1, by rw [v3 86 (by omega), u_at], (fC 87 (by omega)).trans c3, (fC 88 (by omega)).trans c4⟩, (fR 5 (by omega)).trans e5, fun b hb => zIb_c (hB b hb) (fun i hi => fC i (by omega)) (fun j hj => fR j (by omega)), fun k hk => zIk_c (hK k hk) (by omega) (fun i hi => fC i (by omega)) (fun j hj => fR j (by omega)) (fun b hb => fR _ (by omega)), fun s hs => ?_, fun r hr => zIr_c (hR r hr) (by omega) (fun i hi => fC i (by omega)) (fun j hj => fR j (by omega)), fun h hh => zIh_c (hH h hh) (by omega) (fun i hi => fC i (by omega)) (fun j hj => fR j (by omega)), zZr_c hZ (by omega) (fun i hi => fC i (by omega)), fun h => by omega⟩
  by_cases q : s = ns
  · subst q
    exact N
  · exact zIs_c (hS s (by omega)) (fun i hi => fC i (by omega)) (fun j hj => fR j (by omega))
