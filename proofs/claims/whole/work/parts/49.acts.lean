/-! ===== acts: leave, shift, hand, pump, plug, sail ===== -/
theorem zbw_case {nb ns nr : Nat} {v : Int32} (hb : nb ≤ 2) (hs : ns ≤ 8) (hr : nr ≤ 6) (h : zWh nb ns nr v) : (∃ b, b < nb ∧ v = 100 + nI b ∧ zbw v = nI b) ∨ (zbw v = -1 ∧ ∀ b, b < nb → v ≠ 100 + nI b) := by
  have no : ∀ n, n < 2 ^ 31 → n ≠ 100 → n ≠ 101 → zbw (nI n) = -1 ∧ ∀ b, b < nb → nI n ≠ 100 + nI b := fun n h0 h1 h2 => by
    constructor
    · unfold zbw
      rw [if_neg (show ¬ nI n = (100 : Int32) from fun e => h1 (znI (b := 100) h0 (by decide) e)), if_neg (show ¬ nI n = (101 : Int32) from fun e => h2 (znI (b := 101) h0 (by decide) e))]
    · intro b hb' e
      rw [zy_100] at e
      have := znI h0 (by omega) e
      omega
  rcases h with ⟨s, h1, rfl⟩ | ⟨b, h1, rfl⟩ | ⟨r, h1, rfl⟩ | rfl
  · exact Or.inr (no s (by omega) (by omega) (by omega))
  · refine Or.inl ⟨b, h1, rfl, ?_⟩
    rcases (show b = 0 ∨ b = 1 by omega) with rfl | rfl
    · decide
    · decide
  · exact Or.inr (no (200 + r) (by omega) (by omega) (by omega))
  · exact Or.inr (no 300 (by omega) (by omega) (by omega))
theorem zGood.wb {nb nk ns nr nh : Nat} {C S : Nat → Int32} (G : zGood nb nk ns nr nh C S) : zWB nb nk S := by
  refine ⟨fun b hb => ?_, G.2.2.1⟩
  obtain ⟨d, d1, d2, e⟩ := zk_g2 G.1.ns G.2.1 hb
  obtain ⟨d', d1', d2', e'⟩ := zk_g3 G.1.ns G.2.1 hb
  rw [e, e']
  exact ⟨fun q => by have := (nI_ltI (b := 1) (by omega) (by decide)).mp q; omega, fun q => by have := (nI_ltI (b := 1) (by omega) (by decide)).mp q; omega⟩
theorem p_draughtG {w c : Nat} (hwc : zwc w c) {nb nk ns nr nh b : Nat} {σ : zSg} {I : zTI} {J : zTJ} {S : Nat → Int32} (G : zGood nb nk ns nr nh (I c) S) (hb : b < nb) : qw_draughtOf w (nI b) σ I J = some (some (.int (zdrB S nk b (zset (zab S b) nk))), (zSC σ, I, J)) := by
  obtain ⟨⟨h0, h1, -, -, -⟩, -, ⟨-, c1, -, -, -⟩, -, hB, -⟩ := id G.1
  obtain ⟨-, -, b2, b3, -⟩ := hB b hb
  obtain ⟨g2, g3⟩ := G.wb.1 b hb
  rw [p_draughtOfW hwc (by omega) h1 c1 (by rw [b2]; exact g2) (by rw [b3]; exact g3), z_draughts G.1 G.wb hb]
theorem p_draughtM {nb nk ns nr nh b : Nat} {I : zTI} {J : zTJ} {C : Nat → Int32} (G : zGood nb nk ns nr nh C (I 10)) (hb : b < nb) : qm_draughtNow (nI b) I J = some (some (.int (zdrB (I 10) nk b (zset (zab (I 10) b) nk))), (zSM, I, J)) := by
  obtain ⟨⟨h0, h1, -, -, -⟩, ⟨-, s1, -⟩, -⟩ := id G.1
  obtain ⟨g2, g3⟩ := G.wb.1 b hb
  exact p_draughtNow (by omega) h1 s1 (fun e => g2 (by rw [e]; decide)) (fun e => g3 (by rw [e]; decide))
theorem zDo_act {nb nk ns nr nh t j u : Nat} {σ : zSg} {I I' : zTI} {J J' : zTJ} {x y : Option zR} (H : zSta nb nk ns nr nh t j u I I') (h : ∀ I1 I1', qb_remember σ I J = some (none, (zSC σ, I1, J)) → qm_keepsAct I' J' = some (none, (zSM, I1', J')) → I1 3 = I 3 → I1' 10 = I' 10 → I1' 0 23 = 0 → ∃ r C' S' J1 J1', x = some (some (.int r), (zSC σ, zrI I1 3 C', J1)) ∧ y = some (some (.int r), (zSM, zrI I1' 10 S', J1')) ∧ (∀ k, 83 ≤ k → C' k = I 3 k) ∧ zGood nb nk ns nr nh C' S') : zDo nb nk ns nr nh t σ I I' x y := by
  obtain ⟨I1, I1', a1, a2, a3, a4, a5, a6⟩ := z_act (σ := σ) (J := J) (J' := J') H
  obtain ⟨r, C', S', J1, J1', h1, h2, h3, h4⟩ := h I1 I1' a1 a2 a3 a4 a5
  obtain ⟨b1, b2, b3⟩ := a6 C' S' h3 h4
  exact ⟨r, _, _, _, _, h1, h2, b1, b2, b3⟩
theorem z10 : ¬ (1 : Int32) = 0 := by decide
theorem znm {n : Nat} (h : n < 2 ^ 31) : ¬ nI n = -1 := fun e => znn h (by rw [e]; decide)
/-- the class's world -/
theorem p_ashore {w c : Nat} (hwc : zwc w c) {σ : zSg} {I : zTI} {J : zTJ} {nk k b : Nat} (s : I c 85 = nI nk) (h : nk ≤ 12) (hk : k < nk) (hb : b < 2) : qw_putAshore w (nI k) (nI b) σ I J = some (none, (zSC σ, zrI I c (upd (I c) (47 + k) (I c (1 + b))), J)) := by
  rw [t_qw_putAshore w _ _ c hwc, r1Book hwc s h hk, zkI_s, if_neg z10, pc1 hwc hb, zkI_s, zy47, zif_n (by omega) (by omega), ztnn (by omega), zsI_zrI]
theorem p_putAboard {w c : Nat} (hwc : zwc w c) {σ : zSg} {I : zTI} {J : zTJ} {nk k : Nat} {y z : Int32} (s : I c 85 = nI nk) (h : nk ≤ 12) (hk : k < nk) : qw_putAboard w (nI k) y z σ I J = some (none, (zSC σ, zrI I c (upd (upd (I c) (47 + k) (100 + y)) (23 + k) z), J)) := by
  rw [t_qw_putAboard w _ _ _ c hwc, r1Book hwc s h hk, zkI_s, if_neg z10, zy47, zy23, zif_n (by omega) (by omega), zif_n (by omega) (by omega), ztnn (by omega), ztnn (by omega)]
  simp only [zsI_zrI, zrI_zrI, zrI_row]
theorem p_stands {I : zTI} {J : zTJ} {k : Nat} {y : Int32} (hk : k < 12) : qm_stands (nI k) y I J = some (none, (zSM, zrI I 10 (upd (I 10) (20 + 7 * k + 4) y), J)) := by
  rw [t_qm_stands, zxb4, zif_n (by omega) (by omega), ztnn (by omega), zsI_zrI]
/-- a shelf of a barge -/
theorem p_shelf {w c : Nat} (hwc : zwc w c) {nb nk ns nr nh b : Nat} {σ : zSg} {I I' : zTI} {J J' : zTJ} (W : zWR nb nk ns nr nh (I c) (I' 10)) (hb : b < nb) (y : Int32) : ∃ r, qw_hasShelf w (nI b) y σ I J = some (some (.int r), (zSC σ, I, J)) ∧ qm_isShelf (nI b) y I' J' = some (some (.int r), (zSM, I', J')) ∧ ((r = 1 ∧ ¬ y < 0 ∧ y < I' 10 (6 + 7 * b + 0)) ∨ r = 0) := by
  obtain ⟨⟨h0, -⟩, ⟨s0, -⟩, ⟨c0, -⟩, -, hB, -⟩ := W
  obtain ⟨e0, -⟩ := hB b hb
  rw [t_qw_hasShelf w _ _ c hwc, t_qm_isShelf, r1Barge hwc c0 h0 hb, q1Barge s0 h0 hb, zkI_s, zkI_s, if_neg z10, if_neg z10, zy89, zif_n (by omega) (by omega), ztnn (by omega), e0]
  by_cases q : y < 0
  · rw [if_pos q, if_pos q]
    exact ⟨_, rfl, rfl, Or.inr rfl⟩
  · rw [if_neg q, if_neg q, pg0 (by omega), zkI_s]
    by_cases q2 : y < I' 10 (6 + 7 * b + 0)
    · rw [if_pos q2, if_pos q2]
      exact ⟨_, rfl, rfl, Or.inl ⟨rfl, q, q2⟩⟩
    · rw [if_neg q2, if_neg q2]
      exact ⟨_, rfl, rfl, Or.inr rfl⟩
/-- a shelf that is there is one of eight -/
theorem z_shelf {nb nk ns nr nh b : Nat} {S : Nat → Int32} (N : zNs nb nk ns nr nh) (O : zOK nb nk ns nr nh S) (hb : b < nb) {y : Int32} (h0 : ¬ y < 0) (h1 : y < S (6 + 7 * b + 0)) : ∃ d, d ≤ 7 ∧ y = nI d := by
  obtain ⟨d, d1, d2, e⟩ := zk_g0 N O hb
  obtain ⟨v, rfl, hv⟩ := zof h0
  rw [e] at h1
  have := (nI_ltI hv (by omega)).mp h1
  exact ⟨v, by omega, rfl⟩
theorem o_leave {nb nk ns nr nh t j u : Nat} {σ : zSg} {I I' : zTI} {J J' : zTJ} (H : zSta nb nk ns nr nh t j u I I') (x1 : Int32) : zDo nb nk ns nr nh t σ I I' (qb_leave x1 σ I J) (qm_leave x1 I' J') := by
  obtain ⟨T, G, -⟩ := id H
  obtain ⟨⟨n0, n1, n2, n3, n4⟩, ⟨s0, s1, s2, s3, s4⟩, ⟨c0, c1, c2, c3, c4⟩, -, hB, hK, -⟩ := id G.1
  rw [t_qb_leave, t_qm_leave]
  rcases zcase x1 nk (by omega) with ⟨k, hk, rfl⟩ | h
  · obtain ⟨-, -, -, -, k4, -⟩ := hK k hk
    rw [p_bargeOfW w2 c1 n1 hk, zkI_s, q1Book s1 n1 hk, zkI_s, if_neg z10, p_bargeWith (by omega), zkI_s, k4]
    rcases zbw_case n0 n2 n3 (zk_b4 G.1.ns G.2.1 hk) with ⟨b, hb, ew, eb⟩ | ⟨eb, -⟩
    · rw [eb, if_neg (znm (by omega)), if_neg (znn (by omega))]
      refine zDo_act (J := J) (J' := J') H fun I1 I1' a1 a2 a3 a4 a5 => ?_
      rw [a1, zkV_s, a2, zkV_s, p_ashore w2 (by rw [a3]; exact c1) n1 hk (by omega), zkV_s, pst (by omega), zkI_s, p_stands (by omega), zkV_s]
      obtain ⟨-, -, -, -, -, b5, -⟩ := hB b hb
      obtain ⟨d, hd, ed⟩ := zk_g5 G.1.ns G.2.1 hb
      have G' : zGood nb nk ns nr nh (upd (I1 3) (47 + k) (I1 3 (1 + b))) (upd (I1' 10) (20 + 7 * k + 4) (I1' 10 (6 + 7 * b + 5))) := by
        rw [a3, a4, b5]
        refine zGood_upd G (Or.inr (Or.inr (Or.inl ⟨k, hk, by omega⟩))) (zBd_where G.1.ns hk (Or.inl ⟨d, hd, ed⟩)) (zAb_off G.2.2.1 n0 n1 fun b' hb' => ?_)
        rw [ed, zy_100]
        intro e
        have := znI (by omega) (by omega) e
        omega
      have G1 : zGood nb nk ns nr nh (zrI I1 3 (upd (I1 3) (47 + k) (I1 3 (1 + b))) 3) (zrI I1' 10 (upd (I1' 10) (20 + 7 * k + 4) (I1' 10 (6 + 7 * b + 5))) 10) := by
        rw [zrI_row, zrI_row]
        exact G'
      rw [p_draughtG w2 G1 hb, zkI_s, p_draughtM G1 hb, zkI_s]
      refine ⟨_, _, _, _, _, rfl, rfl, fun k' hk' => ?_, G'⟩
      rw [u_no (by omega), a3]
    · rw [eb, if_pos rfl, if_pos (by decide)]
      exact zDo_same H ⟨_, rfl, rfl⟩
  · rw [p_bargeOfW0 w2 c1 h, zkI_s, if_pos rfl, q0Book s1 h, zkI_s, if_pos rfl]
    exact zDo_same H ⟨_, rfl, rfl⟩
theorem o_shift {nb nk ns nr nh t j u : Nat} {σ : zSg} {I I' : zTI} {J J' : zTJ} (H : zSta nb nk ns nr nh t j u I I') (x1 x2 : Int32) : zDo nb nk ns nr nh t σ I I' (qb_shift x1 x2 σ I J) (qm_shift x1 x2 I' J') := by
  obtain ⟨T, G, -⟩ := id H
  obtain ⟨⟨n0, n1, n2, n3, n4⟩, ⟨s0, s1, s2, s3, s4⟩, ⟨c0, c1, c2, c3, c4⟩, -, hB, hK, -⟩ := id G.1
  rw [t_qb_shift, t_qm_shift]
  rcases zcase x1 nk (by omega) with ⟨k, hk, rfl⟩ | h
  · obtain ⟨-, -, -, k3, k4, -⟩ := hK k hk
    rw [p_bargeOfW w2 c1 n1 hk, zkI_s, q1Book s1 n1 hk, zkI_s, if_neg z10, p_bargeWith (by omega), zkI_s, k4]
    rcases zbw_case n0 n2 n3 (zk_b4 G.1.ns G.2.1 hk) with ⟨b, hb, ew, eb⟩ | ⟨eb, -⟩
    · obtain ⟨r, e1, e2, er⟩ := p_shelf w2 (σ := σ) (J := J) (J' := J') G.1 hb x2
      rw [eb, if_neg (znm (by omega)), e1, zkI_s, e2, zkI_s]
      rcases er with ⟨rfl, y0, y1⟩ | rfl
      · rw [if_neg z10, if_neg z10, pc23 w2 (by omega), zkI_s, pb3 (by omega), zkI_s, k3]
        by_cases q : I' 10 (20 + 7 * k + 3) = x2
        · rw [if_pos q, if_pos q]
          exact zDo_same H ⟨_, rfl, rfl⟩
        · rw [if_neg q, if_neg q]
          refine zDo_act (J := J) (J' := J') H fun I1 I1' a1 a2 a3 a4 a5 => ?_
          rw [a1, zkV_s, a2, zkV_s, zy23, zif_n (by omega) (by omega), ztnn (by omega), zxb3, zif_n (by omega) (by omega), ztnn (by omega), zsI_zrI, zsI_zrI]
          have G' : zGood nb nk ns nr nh (upd (I1 3) (23 + k) x2) (upd (I1' 10) (20 + 7 * k + 3) x2) := by
            rw [a3, a4]
            exact zGood_upd G (Or.inr (Or.inr (Or.inl ⟨k, hk, by omega⟩))) (zBd_shelf G.1.ns hk (z_shelf G.1.ns G.2.1 hb y0 y1)) (zAb_sh G.2.2.1 n0 n1 hb ew y1)
          have G1 : zGood nb nk ns nr nh (zrI I1 3 (upd (I1 3) (23 + k) x2) 3) (zrI I1' 10 (upd (I1' 10) (20 + 7 * k + 3) x2) 10) := by
            rw [zrI_row, zrI_row]
            exact G'
          rw [p_draughtG w2 G1 hb, zkI_s, p_draughtM G1 hb, zkI_s]
          refine ⟨_, _, _, _, _, rfl, rfl, fun k' hk' => ?_, G'⟩
          rw [u_no (by omega), a3]
      · rw [if_pos rfl, if_pos rfl]
        exact zDo_same H ⟨_, rfl, rfl⟩
    · rw [eb, if_pos rfl, t_qm_isShelf, q0Barge s0 (Or.inl (by decide)), zkI_s, if_pos rfl, zkI_s, if_pos rfl]
      exact zDo_same H ⟨_, rfl, rfl⟩
  · rw [p_bargeOfW0 w2 c1 h, zkI_s, if_pos rfl, q0Book s1 h, zkI_s, if_pos rfl]
    exact zDo_same H ⟨_, rfl, rfl⟩
theorem z_1m {b : Nat} (h : b < 2) : (1 : Int32) - nI b = nI (1 - b) := by
  rcases (show b = 0 ∨ b = 1 by omega) with rfl | rfl
  · decide
  · decide
theorem o_hand {nb nk ns nr nh t j u : Nat} {σ : zSg} {I I' : zTI} {J J' : zTJ} (H : zSta nb nk ns nr nh t j u I I') (x1 x2 : Int32) : zDo nb nk ns nr nh t σ I I' (qb_hand x1 x2 σ I J) (qm_hand x1 x2 I' J') := by
  obtain ⟨T, G, -⟩ := id H
  obtain ⟨⟨n0, n1, n2, n3, n4⟩, ⟨s0, s1, s2, s3, s4⟩, ⟨c0, c1, c2, c3, c4⟩, -, hB, hK, -⟩ := id G.1
  rw [t_qb_hand, t_qm_hand]
  rcases zcase x1 nk (by omega) with ⟨k, hk, rfl⟩ | h
  · obtain ⟨-, -, -, k3, k4, -⟩ := hK k hk
    rw [p_bargeOfW w2 c1 n1 hk, zkI_s, q1Book s1 n1 hk, zkI_s, if_neg z10, p_bargeWith (by omega), zkI_s, k4]
    rcases zbw_case n0 n2 n3 (zk_b4 G.1.ns G.2.1 hk) with ⟨b, hb, ew, eb⟩ | ⟨eb, -⟩
    · rw [eb, if_neg (znm (by omega)), t_qw_bargesMeet 2 3 w2, c0, s0]
      by_cases q2 : nb = 2
      · subst q2
        have e1 : ∀ S, qm_stopOf 1 S J' = qm_stopOf (nI 1) S J' := fun _ => rfl
        have e0 : ∀ S, qm_stopOf 0 S J' = qm_stopOf (nI 0) S J' := fun _ => rfl
        rw [if_pos (show nI 2 = (2 : Int32) from rfl), if_neg (show ¬ nI 2 < (2 : Int32) by decide), if_neg (znn (by omega)), e0, pst (by omega), zkI_s, e1, pst (by omega), zkI_s]
        have q1 : I 3 1 = I' 10 (6 + 7 * 0 + 5) := (hB 0 (by omega)).2.2.2.2.2.1
        have q2 : I 3 2 = I' 10 (6 + 7 * 1 + 5) := (hB 1 (by omega)).2.2.2.2.2.1
        rw [q1, q2]
        by_cases qe : I' 10 (6 + 7 * 0 + 5) = I' 10 (6 + 7 * 1 + 5)
        · rw [if_pos qe, if_pos qe, zkI_s, if_neg z10, p_bargeWith (by omega), zkI_s, eb, z_1m hb]
          obtain ⟨r, e1, e2, er⟩ := p_shelf w2 (σ := σ) (J := J) (J' := J') G.1 (show 1 - b < 2 by omega) x2
          rw [e1, zkI_s, e2, zkI_s]
          rcases er with ⟨rfl, y0, y1⟩ | rfl
          · rw [if_neg z10, if_neg z10]
            refine zDo_act (J := J) (J' := J') H fun I1 I1' a1 a2 a3 a4 a5 => ?_
            rw [a1, zkV_s, a2, zkV_s, p_putAboard w2 (by rw [a3]; exact c1) n1 hk, zkV_s, zxb3, zif_n (by omega) (by omega), ztnn (by omega), zsI_zrI, p_stands (by omega), zkV_s, zrI_zrI, zrI_row]
            have G' : zGood 2 nk ns nr nh (upd (upd (I1 3) (47 + k) (100 + nI (1 - b))) (23 + k) x2) (upd (upd (I1' 10) (20 + 7 * k + 3) x2) (20 + 7 * k + 4) (100 + nI (1 - b))) := by
              rw [a3, a4, u_cm _ _ _ (by omega)]
              refine ⟨zWR_upd (zWR_upd G.1 (i := 23 + k) (j := 20 + 7 * k + 3) (Or.inr (Or.inr (Or.inl ⟨k, hk, by omega⟩))) _) (Or.inr (Or.inr (Or.inl ⟨k, hk, by omega⟩))) _, zOK_upd (zOK_upd G.2.1 (zBd_shelf G.1.ns hk (z_shelf G.1.ns G.2.1 (show 1 - b < 2 by omega) y0 y1))) (zBd_where G.1.ns hk (Or.inr (Or.inl ⟨1 - b, by omega, rfl⟩))), zAb_on G.2.2.1 n0 n1 (show 1 - b < 2 by omega) y1, zDp_upd (zDp_upd G.2.2.2.1 n2 (by omega)) n2 (by omega), G.2.2.2.2⟩
            have G1 : zGood 2 nk ns nr nh (zrI I1 3 (upd (upd (I1 3) (47 + k) (100 + nI (1 - b))) (23 + k) x2) 3) (zrI I1' 10 (upd (upd (I1' 10) (20 + 7 * k + 3) x2) (20 + 7 * k + 4) (100 + nI (1 - b))) 10) := by
              rw [zrI_row, zrI_row]
              exact G'
            rw [p_draughtG w2 G1 (show 1 - b < 2 by omega), zkI_s, p_draughtM G1 (show 1 - b < 2 by omega), zkI_s]
            refine ⟨_, _, _, _, _, rfl, rfl, fun k' hk' => ?_, G'⟩
            rw [u_no (by omega), u_no (by omega), a3]
          · rw [if_pos rfl, if_pos rfl]
            exact zDo_same H ⟨_, rfl, rfl⟩
        · rw [if_neg qe, if_neg qe, zkI_s, if_pos rfl]
          exact zDo_same H ⟨_, rfl, rfl⟩
      · have q3 : ¬ nI nb = (2 : Int32) := fun e => q2 (znI (b := 2) (by omega) (by decide) e)
        rw [if_neg q3, zkI_s, if_pos rfl, if_pos (show nI nb < (2 : Int32) from nI_lt (b := 2) (by omega) (by decide))]
        exact zDo_same H ⟨_, rfl, rfl⟩
    · rw [eb, if_pos rfl, if_pos (show (-1 : Int32) < 0 by decide)]
      by_cases q2 : I' 10 0 < 2
      · rw [if_pos q2]
        exact zDo_same H ⟨_, rfl, rfl⟩
      · rw [if_neg q2]
        exact zDo_same H ⟨_, rfl, rfl⟩
  · rw [p_bargeOfW0 w2 c1 h, zkI_s, if_pos rfl, q0Book s1 h, zkI_s, if_pos rfl]
    exact zDo_same H ⟨_, rfl, rfl⟩
theorem o_pump {nb nk ns nr nh t j u : Nat} {σ : zSg} {I I' : zTI} {J J' : zTJ} (H : zSta nb nk ns nr nh t j u I I') (x1 : Int32) : zDo nb nk ns nr nh t σ I I' (qb_pump x1 σ I J) (qm_pump x1 I' J') := by
  obtain ⟨T, G, -⟩ := id H
  obtain ⟨⟨n0, n1, n2, n3, n4⟩, ⟨s0, s1, s2, s3, s4⟩, ⟨c0, c1, c2, c3, c4⟩, -, hB, hK, -⟩ := id G.1
  rw [t_qb_pump, t_qm_pump]
  rcases zcase x1 nb (by omega) with ⟨b, hb, rfl⟩ | h
  · obtain ⟨-, -, -, -, b4, -, -⟩ := hB b hb
    rw [r1Barge w2 c0 n0 hb, zkI_s, if_neg z10, q1Barge s0 n0 hb, zkI_s, if_neg z10, pc3 w2 (by omega), zkI_s, pg4 (by omega), zkI_s, b4]
    by_cases q : I' 10 (6 + 7 * b + 4) = 0
    · rw [if_pos q, if_pos q]
      exact zDo_same H ⟨_, rfl, rfl⟩
    · rw [if_neg q, if_neg q, pg4 (by omega), zkI_s]
      refine zDo_act (J := J) (J' := J') H fun I1 I1' a1 a2 a3 a4 a5 => ?_
      rw [a1, zkV_s, a2, zkV_s, pc3 w2 (by omega), zkI_s, zy3, zif_n (by omega) (by omega), ztnn (by omega), zxg4, zif_n (by omega) (by omega), ztnn (by omega), zsI_zrI, zsI_zrI]
      have er : I1 3 (3 + b) = I' 10 (6 + 7 * b + 4) := by rw [a3, b4]
      rw [er]
      refine ⟨_, _, _, _, _, rfl, rfl, fun k' hk' => ?_, ?_⟩
      · rw [u_no (by omega), a3]
      · rw [a3, a4]
        exact zGood_upd G (Or.inr (Or.inl ⟨b, hb, by omega⟩)) (zBd_water G.1.ns hb ⟨0, by omega, rfl⟩) (zAb_no G.2.2.1 n0 n1 (fun _ _ => by omega) (fun _ _ => by omega))
  · rw [r0Barge w2 c0 h, zkI_s, if_pos rfl, q0Barge s0 h, zkI_s, if_pos rfl]
    exact zDo_same H ⟨_, rfl, rfl⟩
