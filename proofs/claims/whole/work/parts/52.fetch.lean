/-! ===== fetch ===== -/
theorem z_m200 : ∀ s, s < 8 → nI s - 200 < 0 := by decide
theorem z_m100 : ∀ s, s < 2 → (100 + nI s) - 200 < 0 := by decide
theorem z_200 (r : Nat) : nI (200 + r) - 200 = nI r := by
  rw [← zy_200]
  grind
theorem p_fetchG {w c : Nat} (hwc : zwc w c) {nb nk ns nr nh b k : Nat} {σ : zSg} {I I' : zTI} {J J' : zTJ} (G : zGood nb nk ns nr nh (I c) (I' 10)) (hk : k < nk) (hb : b < nb) : ∃ r, qw_canFetch w (nI k) (nI b) σ I J = some (some (.int r), (zSC σ, I, J)) ∧ qm_canFetch (nI k) (nI b) I' J' = some (some (.int r), (zSM, I', J')) ∧ (r = 0 ∨ r = 1 ∧ ((∃ s, s < ns ∧ I' 10 (20 + 7 * k + 4) = nI s) ∨ ∃ r', r' < nr ∧ I' 10 (20 + 7 * k + 4) = nI (200 + r'))) := by
  obtain ⟨⟨n0, n1, n2, n3, n4⟩, ⟨s0, s1, s2, s3, s4⟩, ⟨c0, c1, c2, c3, c4⟩, cD, hB, hK, -, hR, -⟩ := id G.1
  obtain ⟨-, -, -, -, k4, -, k6⟩ := hK k hk
  obtain ⟨-, -, -, -, -, b5, -⟩ := hB b hb
  obtain ⟨a, ha, ea⟩ := zk_g5 G.1.ns G.2.1 hb
  rw [t_qw_canFetch w _ _ c hwc, r1Book hwc c1 n1 hk, zkI_s, if_neg z10, zy47, zif_n (by omega) (by omega), ztnn (by omega), pc1 hwc (by omega), zkI_s, t_qm_canFetch, pb4 (by omega), zkI_s, pst (by omega), zkI_s, k4, b5, p_in2 (a := 200) (b := 205) rfl rfl, zkI_s, ea]
  rcases zk_b4 G.1.ns G.2.1 hk with ⟨s, hs, e⟩ | ⟨b', hb', e⟩ | ⟨r, hr, e⟩ | e
  · rw [e, r0Reader hwc c3 (Or.inl (z_m200 s (by omega))), zkI_s, if_pos rfl]
    by_cases q : nI s = nI a
    · rw [if_pos q, if_pos q]
      exact ⟨_, rfl, rfl, Or.inr ⟨rfl, Or.inl ⟨s, hs, rfl⟩⟩⟩
    · rw [if_neg q, if_neg q, if_neg (show ¬ (¬ nI s < 200 ∧ ¬ (205 : Int32) < nI s) from fun h => h.1 (nI_lt (b := 200) (by omega) (by decide))), if_pos rfl]
      exact ⟨_, rfl, rfl, Or.inl rfl⟩
  · have q : ¬ (100 : Int32) + nI b' = nI a := fun q => by
      rw [zy_100] at q
      have := znI (by omega) (by omega) q
      omega
    rw [e, r0Reader hwc c3 (Or.inl (z_m100 b' (by omega))), zkI_s, if_pos rfl, if_neg q, if_neg q, if_neg (show ¬ (¬ 100 + nI b' < 200 ∧ ¬ (205 : Int32) < 100 + nI b') from fun h => h.1 (by rw [zy_100]; exact nI_lt (b := 200) (by omega) (by decide))), if_pos rfl]
    exact ⟨_, rfl, rfl, Or.inl rfl⟩
  · have q : ¬ nI (200 + r) = nI a := fun q => by
      have := znI (by omega) (by omega) q
      omega
    obtain ⟨r0, -⟩ := hR r hr
    rw [e, z_200, r1Reader hwc c3 n3 hr, zkI_s, if_neg z10, zy153, zif_n (by omega) (by omega), ztnn (by omega), zy71, zif_n (by omega) (by omega), ztnn (by omega), if_neg q, if_pos (show ¬ nI (200 + r) < 200 ∧ ¬ (205 : Int32) < nI (200 + r) from ⟨fun h => by have := (nI_ltI (b := 200) (by omega) (by decide)).mp h; omega, fun h => by have := (nI_ltI (a := 205) (by decide) (by omega)).mp h; omega⟩), if_neg z10, pr0 (by omega), zkI_s, pst (by omega), zkI_s, r0, ea]
    by_cases q2 : I' 10 (144 + 5 * r + 0) = nI a
    · rw [if_pos q2, if_pos q2, pb6 (by omega), zkI_s, cD, k6]
      by_cases q3 : I' 10 5 < I' 10 (20 + 7 * k + 6)
      · rw [if_pos q3, if_pos q3]
        exact ⟨_, rfl, rfl, Or.inl rfl⟩
      · rw [if_neg q3, if_neg q3]
        exact ⟨_, rfl, rfl, Or.inr ⟨rfl, Or.inr ⟨r, hr, rfl⟩⟩⟩
    · rw [if_neg q2, if_neg q2]
      exact ⟨_, rfl, rfl, Or.inl rfl⟩
  · have q : ¬ nI 300 = nI a := fun q => by
      have := znI (by omega) (by omega) q
      omega
    rw [e, r0Reader hwc c3 (Or.inr ⟨by decide, fun h => by have := (nI_ltI (a := 100) (by decide) (by omega)).mp h; omega⟩), zkI_s, if_pos rfl, if_neg q, if_neg q, if_neg (show ¬ (¬ nI 300 < 200 ∧ ¬ (205 : Int32) < nI 300) from fun h => h.2 (by decide)), if_pos rfl]
    exact ⟨_, rfl, rfl, Or.inl rfl⟩
theorem zG_board {nb nk ns nr nh b k : Nat} {C S : Nat → Int32} (G : zGood nb nk ns nr nh C S) (hb : b < nb) (hk : k < nk) {y : Int32} (y0 : ¬ y < 0) (y1 : y < S (6 + 7 * b + 0)) : zGood nb nk ns nr nh (upd (upd C (47 + k) (100 + nI b)) (23 + k) y) (upd (upd S (20 + 7 * k + 3) y) (20 + 7 * k + 4) (100 + nI b)) := by
  obtain ⟨⟨n0, n1, n2, n3, n4⟩, -⟩ := id G.1
  rw [u_cm _ _ _ (show 47 + k ≠ 23 + k by omega)]
  exact ⟨zWR_upd (zWR_upd G.1 (i := 23 + k) (j := 20 + 7 * k + 3) (Or.inr (Or.inr (Or.inl ⟨k, hk, by omega⟩))) _) (Or.inr (Or.inr (Or.inl ⟨k, hk, by omega⟩))) _, zOK_upd (zOK_upd G.2.1 (zBd_shelf G.1.ns hk (z_shelf G.1.ns G.2.1 hb y0 y1))) (zBd_where G.1.ns hk (Or.inr (Or.inl ⟨b, hb, rfl⟩))), zAb_on G.2.2.1 n0 n1 hb y1, zDp_upd (zDp_upd G.2.2.2.1 n2 (by omega)) n2 (by omega), G.2.2.2.2⟩
theorem z_min9 (a b : Nat) (ha : a ≤ 9) (hb : b ≤ 9) : (if nI a + nI b < 9 then nI a + nI b else 9) = nI (min 9 (a + b)) ∧ (if (9 : Int32) < nI a + nI b then (9 : Int32) else nI a + nI b) = nI (min 9 (a + b)) := by
  rw [nI_add]
  by_cases q : a + b < 9
  · rw [if_pos (show nI (a + b) < (9 : Int32) from nI_lt (b := 9) q (by decide)), if_neg (show ¬ (9 : Int32) < nI (a + b) from fun h => by have := (nI_ltI (a := 9) (by decide) (by omega)).mp h; omega), show min 9 (a + b) = a + b by omega]
    exact ⟨rfl, rfl⟩
  · rw [if_neg (show ¬ nI (a + b) < (9 : Int32) from fun h => by have := (nI_ltI (b := 9) (by omega) (by decide)).mp h; omega)]
    refine ⟨by rw [show min 9 (a + b) = 9 by omega]; rfl, ?_⟩
    by_cases q2 : a + b = 9
    · rw [q2]; decide
    · rw [if_pos (show (9 : Int32) < nI (a + b) from nI_lt (a := 9) (by omega) (by omega)), show min 9 (a + b) = 9 by omega]
      rfl
set_option maxHeartbeats 2000000 in
theorem p_takeG {w c : Nat} (hwc : zwc w c) {nb nk ns nr nh b k : Nat} {σ : zSg} {I I' : zTI} {J J' : zTJ} (G : zGood nb nk ns nr nh (I c) (I' 10)) (hk : k < nk) (hb : b < nb) {y : Int32} (y0 : ¬ y < 0) (y1 : y < I' 10 (6 + 7 * b + 0)) (hw : (∃ s, s < ns ∧ I' 10 (20 + 7 * k + 4) = nI s) ∨ ∃ r', r' < nr ∧ I' 10 (20 + 7 * k + 4) = nI (200 + r')) : ∃ C' S', qw_takeIn w (nI k) (nI b) y σ I J = some (none, (zSC σ, zrI I c C', J)) ∧ qm_fetches (nI k) (nI b) y I' J' = some (none, (zSM, zrI I' 10 S', J')) ∧ zGood nb nk ns nr nh C' S' ∧ (∀ k, 83 ≤ k → C' k = I c k) ∧ ∀ j, j < 20 → S' j = I' 10 j := by
  obtain ⟨⟨n0, n1, n2, n3, n4⟩, ⟨s0, s1, s2, s3, s4⟩, ⟨c0, c1, c2, c3, c4⟩, cD, hB, hK, -, hR, -⟩ := id G.1
  obtain ⟨-, -, k2, -, k4, -, k6⟩ := hK k hk
  rw [t_qw_takeIn w _ _ _ c hwc, pc47 hwc (by omega), zkI_s, k4, t_qm_fetches]
  simp only [zxb2, zxb3, zxb4, zxb6]
  simp only [zif_n (show 20 + 7 * k + 2 < 258 by omega) (show 258 < 2 ^ 31 by omega), zif_n (show 20 + 7 * k + 3 < 258 by omega) (show 258 < 2 ^ 31 by omega), zif_n (show 20 + 7 * k + 4 < 258 by omega) (show 258 < 2 ^ 31 by omega), zif_n (show 20 + 7 * k + 6 < 258 by omega) (show 258 < 2 ^ 31 by omega), ztnn (show 20 + 7 * k + 2 < 2 ^ 31 by omega), ztnn (show 20 + 7 * k + 3 < 2 ^ 31 by omega), ztnn (show 20 + 7 * k + 4 < 2 ^ 31 by omega), ztnn (show 20 + 7 * k + 6 < 2 ^ 31 by omega)]
  rcases hw with ⟨s, hs, e⟩ | ⟨r, hr, e⟩
  · rw [e, r0Reader hwc c3 (Or.inl (z_m200 s (by omega))), zkI_s, if_pos rfl, p_putAboard hwc c1 n1 hk, zkV_s, if_pos (show nI s < (200 : Int32) from nI_lt (b := 200) (by omega) (by decide))]
    simp only [zsI_zrI, zrI_zrI, zrI_row]
    refine ⟨_, _, rfl, rfl, zG_board G hb hk y0 y1, fun k' hk' => ?_, fun j hj => ?_⟩
    · rw [u_no (by omega), u_no (by omega)]
    · rw [u_no (by omega), u_no (by omega)]
  · obtain ⟨-, r1, -, r3, -⟩ := hR r hr
    obtain ⟨d, hd, ed⟩ := zk_b2 G.1.ns G.2.1 hk
    obtain ⟨m, hm, em⟩ := zk_r1 G.1.ns G.2.1 hr
    rw [e, z_200, r1Reader hwc c3 n3 hr, zkI_s, if_neg z10, if_neg (show ¬ nI (200 + r) < (200 : Int32) from fun h => by have := (nI_ltI (b := 200) (by omega) (by decide)).mp h; omega), pr1 (by omega), zkI_s, zy11, zy35, zy159, zy71, zif_n (by omega) (by omega), zif_n (by omega) (by omega), zif_n (by omega) (by omega), zif_n (by omega) (by omega), zif_n (by omega) (by omega), ztnn (by omega), ztnn (by omega), ztnn (by omega), ztnn (by omega)]
    simp only [zsI_zrI, zrI_zrI, zrI_row]
    rw [u_no (show 35 + k ≠ 11 + r by omega), u_no (show 159 + r ≠ 11 + r by omega), k2, r1, ed, em, (z_min9 d m hd hm).1]
    rw [p_putAboard (I := zrI I c _) hwc (nk := nk) (by rw [zrI_row, u_no (by omega), u_no (by omega), u_no (by omega)]; exact c1) n1 hk, zkV_s, zrI_zrI, zrI_row]
    simp only [zxr3, zif_n (show 144 + 5 * r + 3 < 258 by omega) (show 258 < 2 ^ 31 by omega), ztnn (show 144 + 5 * r + 3 < 2 ^ 31 by omega)]
    have em9 := (z_min9 d m hd hm).2
    have N := G.1.ns
    have G1 := zGood_upd G (i := 35 + k) (j := 20 + 7 * k + 2) (v := nI (min 9 (d + m))) (Or.inr (Or.inr (Or.inl ⟨k, hk, by omega⟩))) (zBd_damp N hk ⟨_, by omega, rfl⟩) (zAb_no G.2.2.1 n0 n1 (fun _ _ => by omega) (fun _ _ => by omega))
    have G2 := zGood_upd G1 (i := 11 + r) (j := 144 + 5 * r + 3) (v := -1) (Or.inr (Or.inr (Or.inr (Or.inl ⟨r, hr, by omega⟩)))) (zBd_has N hr (Or.inl rfl)) (zAb_no G1.2.2.1 n0 n1 (fun _ _ => by omega) (fun _ _ => by omega))
    have G3 := zGood_upd G2 (i := 71 + k) (j := 20 + 7 * k + 6) (v := -1) (Or.inr (Or.inr (Or.inl ⟨k, hk, by omega⟩))) (zBd_due N hk trivial) (zAb_no G2.2.2.1 n0 n1 (fun _ _ => by omega) (fun _ _ => by omega))
    have G4 := zG_board G3 hb hk y0 (by rw [u_no (by omega), u_no (by omega), u_no (by omega)]; exact y1)
    rw [u_cm (I c) (-1) (nI (min 9 (d + m))) (show 11 + r ≠ 35 + k by omega)]
    by_cases q : (9 : Int32) < nI d + nI m
    · rw [if_pos q] at em9
      rw [if_pos q, em9]
      exact ⟨_, _, rfl, rfl, G4, fun k' hk' => by rw [u_no (by omega), u_no (by omega), u_no (by omega), u_no (by omega), u_no (by omega)], fun j hj => by rw [u_no (by omega), u_no (by omega), u_no (by omega), u_no (by omega), u_no (by omega)]⟩
    · rw [if_neg q] at em9
      rw [if_neg q, em9]
      exact ⟨_, _, rfl, rfl, G4, fun k' hk' => by rw [u_no (by omega), u_no (by omega), u_no (by omega), u_no (by omega), u_no (by omega)], fun j hj => by rw [u_no (by omega), u_no (by omega), u_no (by omega), u_no (by omega), u_no (by omega)]⟩
theorem o_fetch {nb nk ns nr nh t j u : Nat} {σ : zSg} {I I' : zTI} {J J' : zTJ} (H : zSta nb nk ns nr nh t j u I I') (x1 x2 x3 : Int32) : zDo nb nk ns nr nh t σ I I' (qb_fetch x1 x2 x3 σ I J) (qm_fetch x1 x2 x3 I' J') := by
  obtain ⟨T, G, -⟩ := id H
  obtain ⟨⟨n0, n1, n2, n3, n4⟩, ⟨s0, s1, s2, s3, s4⟩, ⟨c0, c1, c2, c3, c4⟩, -, hB, hK, -, hR, -⟩ := id G.1
  rw [t_qb_fetch, t_qm_fetch]
  rcases zcase x2 nb (by omega) with ⟨b, hb, rfl⟩ | h
  · obtain ⟨r, e1, e2, er⟩ := p_shelf w2 (σ := σ) (J := J) (J' := J') G.1 hb x3
    rw [e1, zkI_s]
    rcases zcase x1 nk (by omega) with ⟨k, hk, rfl⟩ | h
    · rw [q1Book s1 n1 hk, zkI_s, if_neg z10, e2, zkI_s]
      rcases er with ⟨rfl, y0, y1⟩ | rfl
      · obtain ⟨r, f1, f2, fr⟩ := p_fetchG w2 (σ := σ) (J := J) (J' := J') G hk hb
        rw [if_neg z10, if_neg z10, f1, zkI_s, f2, zkI_s]
        rcases fr with rfl | ⟨rfl, hw⟩
        · rw [if_pos rfl, if_pos rfl]
          exact zDo_same H ⟨_, rfl, rfl⟩
        · rw [if_neg z10, if_neg z10]
          refine zDo_act (J := J) (J' := J') H fun I1 I1' a1 a2 a3 a4 a5 => ?_
          obtain ⟨C', S', g1, g2, g3, g4, -⟩ := p_takeG w2 (σ := σ) (I := I1) (I' := I1') (J := J) (J' := J') (by rw [a3, a4]; exact G) hk hb y0 (by rw [a4]; exact y1) (by rw [a4]; exact hw)
          have G1 : zGood nb nk ns nr nh (zrI I1 3 C' 3) (zrI I1' 10 S' 10) := by
            rw [zrI_row, zrI_row]
            exact g3
          rw [a1, zkV_s, a2, zkV_s, g1, zkV_s, g2, zkV_s, p_draughtG w2 G1 hb, zkI_s, p_draughtM G1 hb, zkI_s]
          exact ⟨_, _, _, _, _, rfl, rfl, fun k' hk' => by rw [g4 k' hk', a3], g3⟩
      · rw [if_pos rfl, if_pos rfl]
        exact zDo_same H ⟨_, rfl, rfl⟩
    · rw [q0Book s1 h, zkI_s, if_pos rfl]
      rcases er with ⟨rfl, y0, y1⟩ | rfl
      · rw [if_neg z10, t_qw_canFetch 2 _ _ 3 w2, r0Book w2 c1 h, zkI_s, if_pos rfl, zkI_s, if_pos rfl]
        exact zDo_same H ⟨_, rfl, rfl⟩
      · rw [if_pos rfl]
        exact zDo_same H ⟨_, rfl, rfl⟩
  · rw [t_qw_hasShelf 2 _ _ 3 w2, r0Barge w2 c0 h, zkI_s, if_pos rfl, zkI_s, if_pos rfl]
    rcases zcase x1 nk (by omega) with ⟨k, hk, rfl⟩ | h'
    · rw [q1Book s1 n1 hk, zkI_s, if_neg z10, t_qm_isShelf, q0Barge s0 h, zkI_s, if_pos rfl, zkI_s, if_pos rfl]
      exact zDo_same H ⟨_, rfl, rfl⟩
    · rw [q0Book s1 h', zkI_s, if_pos rfl]
      exact zDo_same H ⟨_, rfl, rfl⟩
