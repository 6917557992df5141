/-! ===== a river: a clause of each kind ===== -/
theorem zlt_n {a b : Nat} {x : Int32} (hx : x = nI b) (ha : a < 1000) (hb : b < 1000) : (nI a < x ↔ a < b) ∧ (nI a = x ↔ a = b) := by
  subst hx
  exact ⟨nI_ltI (by omega) (by omega), fun h => znI (by omega) (by omega) h, fun h => by rw [h]⟩
set_option maxHeartbeats 8000000 in
theorem p_lBarge {m nb nk ns nr nh t q : Nat} {B : Nat → Nat} {I K : zTI} {σ : zSg} {J J' : zTJ} (H : zKd (if nb = m then 1 else 0) m nb nk ns nr nh t B q I K) : ∃ r I1 I1', zRc σ (nI q) (nI m) 0 I J = some (some (.int r), (zSC σ, I1, J)) ∧ qm_isBargeHere (nI q) K J' = some (some (.int r), (zSM, I1', J')) ∧ zbo r = true ∧ zLn m t B I K r I1 I1' := by
  obtain ⟨⟨a1, a2, b1, b2, hq, T, b10⟩, hz, V, e12, e15, e8, hbm, hm⟩ := id H
  obtain ⟨n0, n1, n2, n3, n4⟩ := V.1
  obtain ⟨s0, s1, s2, s3, s4⟩ := V.2.1
  obtain ⟨c0, c1, c2, c3, c4⟩ := V.2.2.1
  have ht := T.1
  have F := p_full (m := m) (t := t) (q := q) (B := B) (I := I) (K := K) (σ := σ) (J := J) (J' := J') hm (by omega) b10
  unfold zRc
  rw [t_qr_hasPlaceFor, if_pos rfl, c0, t_qm_isBargeHere, s0, e8]
  by_cases h2 : nb < 2
  · rw [if_pos ((zlt_n (x := 2) (b := 2) rfl (by omega) (by omega)).1.mpr h2), if_neg (show ¬ nI nb = (2 : Int32) from fun h => by have := (zlt_n (x := 2) (a := nb) (b := 2) rfl (by omega) (by omega)).2.mp h; omega)]
    by_cases hb : nb = m
    · rw [if_pos (show nI nb = nI m by rw [hb]), if_pos hb, zkI_s, if_neg z10, if_neg z10]
      obtain ⟨I2, K2, p2, g1, g2, g3, g4, g5, g6, g7, g8⟩ := zKd_p (σ := σ) (J := J) (J' := J') H
      rw [g1, zkV_s, g2, zkV_s, if_pos rfl]
      obtain ⟨r, I1, I1', k1, k2, k3⟩ := p_barge (σ := σ) (J := J) (J' := J') g3 h2 (by rw [g6]; exact c0) (by rw [g7]; exact s0)
      rw [k1, zkI_s, k2, zif_t (zOut_b k3)]
      refine ⟨r, I1, I1', rfl, rfl, zOut_b k3, p_lnE k3 (fun Q => ?_) g4 g5 (by rw [g8 12 (by decide)]; exact e12) (by rw [g8 15 (by decide)]; exact e15) hm⟩
      obtain ⟨v0, v1, v2, v3, q0, q1, q2, q3, eC, eR⟩ := Q
      rw [g6] at eC
      rw [g7] at eR
      exact ⟨_, _, _, _, _, zRv_barge V h2 q0 q1 q2 q3 eC eR, by omega, by rw [g8 8 (by decide), e8, if_pos hb, if_pos (by omega)]⟩
    · obtain ⟨r, I1, I1', f1, f2, f3, f4⟩ := F
      rw [if_neg (show ¬ nI nb = nI m from fun h => hb (znI (by omega) (by omega) h)), if_neg hb, zkI_s, if_pos rfl, if_pos rfl, f1, f2]
      exact ⟨r, I1, I1', rfl, rfl, by rw [f3]; decide, f4⟩
  · obtain ⟨r, I1, I1', f1, f2, f3, f4⟩ := F
    rw [if_neg (fun h => h2 ((zlt_n (x := 2) (b := 2) rfl (by omega) (by omega)).1.mp h)), zkI_s, if_pos rfl, if_pos ((zlt_n (x := 2) (b := 2) rfl (by omega) (by omega)).2.mpr (by omega)), f1, f2]
    exact ⟨r, I1, I1', rfl, rfl, by rw [f3]; decide, f4⟩
set_option maxHeartbeats 8000000 in
theorem p_lBook {m nb nk ns nr nh t q : Nat} {B : Nat → Nat} {I K : zTI} {σ : zSg} {J J' : zTJ} (H : zKd 0 m nb nk ns nr nh t B q I K) (hb : nb ≠ 0) : ∃ r I1 I1', zRc σ (nI q) (nI m) 1 I J = some (some (.int r), (zSC σ, I1, J)) ∧ qm_isBookHere (nI q) K J' = some (some (.int r), (zSM, I1', J')) ∧ zbo r = true ∧ zLn m t B I K r I1 I1' := by
  obtain ⟨⟨a1, a2, b1, b2, hq, T, b10⟩, hz, V, e12, e15, e8, hbm, hm⟩ := id H
  obtain ⟨n0, n1, n2, n3, n4⟩ := V.1
  obtain ⟨s0, s1, s2, s3, s4⟩ := V.2.1
  obtain ⟨c0, c1, c2, c3, c4⟩ := V.2.2.1
  have ht := T.1
  have F := p_full (m := m) (t := t) (q := q) (B := B) (I := I) (K := K) (σ := σ) (J := J) (J' := J') hm (by omega) b10
  unfold zRc
  rw [t_qr_hasPlaceFor, if_neg (show ¬ (1 : Int32) = 0 by decide), c0, if_neg (show ¬ nI nb = (0 : Int32) from fun h => hb (znI (b := 0) (by omega) (by omega) h)), if_pos rfl, c1, t_qm_isBookHere, s1]
  by_cases hn : nk < 12
  · rw [if_pos ((zlt_n (x := 12) (b := 12) rfl (by omega) (by omega)).1.mpr hn), if_neg (fun h => by have := (zlt_n (x := 12) (a := nk) (b := 12) rfl (by omega) (by omega)).2.mp h; omega), zkI_s, if_neg z10]
    · obtain ⟨I2, K2, p2, g1, g2, g3, g4, g5, g6, g7, g8⟩ := zKd_p (σ := σ) (J := J) (J' := J') H
      rw [g1, zkV_s, g2, zkV_s, if_neg (show ¬ (1 : Int32) = 0 by decide), if_pos rfl]
      obtain ⟨r, I1, I1', k1, k2, k3⟩ := p_book2 (σ := σ) (J := J) (J' := J') g3 hn n0 (by rw [g6]; exact c0) (by rw [g7]; exact s0) (by rw [g6]; exact c1) (by rw [g7]; exact s1) (fun b hb => by rw [g6, g7]; obtain ⟨w0, w1, w2, w3, -, -, -, -, x0, -, -, -, y0, -⟩ := V.2.2.2.2.1 b hb; rw [x0, y0])
      rw [k1, zkI_s, k2, zif_t (zOut_b k3)]
      refine ⟨r, I1, I1', rfl, rfl, zOut_b k3, p_lnE k3 (fun Q => ?_) g4 g5 (by rw [g8 12 (by decide)]; exact e12) (by rw [g8 15 (by decide)]; exact e15) hm⟩
      obtain ⟨v0, v1, vb, v3, q0, q1, q2, q3, q4, eC, eR⟩ := Q
      rw [g6] at eC
      rw [g7] at eR q3
      exact ⟨_, _, _, _, _, zRv_book V hn q0 q1 q2 q3 q4 eC eR, by omega, by rw [g8 8 (by decide), e8, if_neg (by omega)]⟩
  · obtain ⟨r, I1, I1', f1, f2, f3, f4⟩ := F
    rw [if_neg (fun h => hn ((zlt_n (x := 12) (b := 12) rfl (by omega) (by omega)).1.mp h)), zkI_s, if_pos rfl, if_pos ((zlt_n (x := 12) (b := 12) rfl (by omega) (by omega)).2.mpr (by omega)), f1, f2]
    exact ⟨r, I1, I1', rfl, rfl, by rw [f3]; decide, f4⟩
set_option maxHeartbeats 8000000 in
theorem p_lStop {m nb nk ns nr nh t q : Nat} {B : Nat → Nat} {I K : zTI} {σ : zSg} {J J' : zTJ} (H : zKd 0 m nb nk ns nr nh t B q I K) (hb : nb ≠ 0) : ∃ r I1 I1', zRc σ (nI q) (nI m) 2 I J = some (some (.int r), (zSC σ, I1, J)) ∧ qm_isStopHere (nI q) K J' = some (some (.int r), (zSM, I1', J')) ∧ zbo r = true ∧ zLn m t B I K r I1 I1' := by
  obtain ⟨⟨a1, a2, b1, b2, hq, T, b10⟩, hz, V, e12, e15, e8, hbm, hm⟩ := id H
  obtain ⟨n0, n1, n2, n3, n4⟩ := V.1
  obtain ⟨s0, s1, s2, s3, s4⟩ := V.2.1
  obtain ⟨c0, c1, c2, c3, c4⟩ := V.2.2.1
  have ht := T.1
  have F := p_full (m := m) (t := t) (q := q) (B := B) (I := I) (K := K) (σ := σ) (J := J) (J' := J') hm (by omega) b10
  unfold zRc
  rw [t_qr_hasPlaceFor, if_neg (show ¬ (2 : Int32) = 0 by decide), c0, if_neg (show ¬ nI nb = (0 : Int32) from fun h => hb (znI (b := 0) (by omega) (by omega) h)), if_neg (show ¬ (2 : Int32) = 1 by decide), if_pos rfl, c2, t_qm_isStopHere, s2]
  by_cases hn : ns < 8
  · rw [if_pos ((zlt_n (x := 8) (b := 8) rfl (by omega) (by omega)).1.mpr hn), if_neg (fun h => by have := (zlt_n (x := 8) (a := ns) (b := 8) rfl (by omega) (by omega)).2.mp h; omega), zkI_s, if_neg z10]
    · obtain ⟨I2, K2, p2, g1, g2, g3, g4, g5, g6, g7, g8⟩ := zKd_p (σ := σ) (J := J) (J' := J') H
      rw [g1, zkV_s, g2, zkV_s, if_neg (show ¬ (2 : Int32) = 0 by decide), if_neg (show ¬ (2 : Int32) = 1 by decide), if_pos rfl]
      obtain ⟨r, I1, I1', k1, k2, k3⟩ := p_stop2 (σ := σ) (J := J) (J' := J') g3 hn (by rw [g6]; exact c2) (by rw [g7]; exact s2)
      rw [k1, zkI_s, k2, zif_t (zOut_b k3)]
      refine ⟨r, I1, I1', rfl, rfl, zOut_b k3, p_lnE k3 (fun Q => ?_) g4 g5 (by rw [g8 12 (by decide)]; exact e12) (by rw [g8 15 (by decide)]; exact e15) hm⟩
      obtain ⟨n, R1, q0, q1, q2, q3, eR⟩ := Q
      exact ⟨_, _, _, _, _, zRv_stop V (by omega) hn q0 q1 q2 (by rw [g6, g7] at q3; exact q3) eR, by omega, by rw [g8 8 (by decide), e8, if_neg (by omega)]⟩
  · obtain ⟨r, I1, I1', f1, f2, f3, f4⟩ := F
    rw [if_neg (fun h => hn ((zlt_n (x := 8) (b := 8) rfl (by omega) (by omega)).1.mp h)), zkI_s, if_pos rfl, if_pos ((zlt_n (x := 8) (b := 8) rfl (by omega) (by omega)).2.mpr (by omega)), f1, f2]
    exact ⟨r, I1, I1', rfl, rfl, by rw [f3]; decide, f4⟩
set_option maxHeartbeats 8000000 in
theorem p_lReader {m nb nk ns nr nh t q : Nat} {B : Nat → Nat} {I K : zTI} {σ : zSg} {J J' : zTJ} (H : zKd 0 m nb nk ns nr nh t B q I K) (hb : nb ≠ 0) : ∃ r I1 I1', zRc σ (nI q) (nI m) 3 I J = some (some (.int r), (zSC σ, I1, J)) ∧ qm_isReaderHere (nI q) K J' = some (some (.int r), (zSM, I1', J')) ∧ zbo r = true ∧ zLn m t B I K r I1 I1' := by
  obtain ⟨⟨a1, a2, b1, b2, hq, T, b10⟩, hz, V, e12, e15, e8, hbm, hm⟩ := id H
  obtain ⟨n0, n1, n2, n3, n4⟩ := V.1
  obtain ⟨s0, s1, s2, s3, s4⟩ := V.2.1
  obtain ⟨c0, c1, c2, c3, c4⟩ := V.2.2.1
  have ht := T.1
  have F := p_full (m := m) (t := t) (q := q) (B := B) (I := I) (K := K) (σ := σ) (J := J) (J' := J') hm (by omega) b10
  unfold zRc
  rw [t_qr_hasPlaceFor, if_neg (show ¬ (3 : Int32) = 0 by decide), c0, if_neg (show ¬ nI nb = (0 : Int32) from fun h => hb (znI (b := 0) (by omega) (by omega) h)), if_neg (show ¬ (3 : Int32) = 1 by decide), if_neg (show ¬ (3 : Int32) = 2 by decide), if_pos rfl, c3, t_qm_isReaderHere, s3]
  by_cases hn : nr < 6
  · rw [if_pos ((zlt_n (x := 6) (b := 6) rfl (by omega) (by omega)).1.mpr hn), if_neg (fun h => by have := (zlt_n (x := 6) (a := nr) (b := 6) rfl (by omega) (by omega)).2.mp h; omega), zkI_s, if_neg z10]
    · obtain ⟨I2, K2, p2, g1, g2, g3, g4, g5, g6, g7, g8⟩ := zKd_p (σ := σ) (J := J) (J' := J') H
      rw [g1, zkV_s, g2, zkV_s, if_neg (show ¬ (3 : Int32) = 0 by decide), if_neg (show ¬ (3 : Int32) = 1 by decide), if_neg (show ¬ (3 : Int32) = 2 by decide), if_pos rfl]
      obtain ⟨r, I1, I1', k1, k2, k3⟩ := p_reader2 (σ := σ) (J := J) (J' := J') g3 hn n2 (by rw [g6]; exact c2) (by rw [g7]; exact s2) (by rw [g6]; exact c3) (by rw [g7]; exact s3)
      rw [k1, zkI_s, k2, zif_t (zOut_b k3)]
      refine ⟨r, I1, I1', rfl, rfl, zOut_b k3, p_lnE k3 (fun Q => ?_) g4 g5 (by rw [g8 12 (by decide)]; exact e12) (by rw [g8 15 (by decide)]; exact e15) hm⟩
      obtain ⟨v0, v1, v2, q0, q1, q2, eC, eR⟩ := Q
      rw [g6] at eC
      rw [g7] at eR
      exact ⟨_, _, _, _, _, zRv_reader V hn q0 q1 q2 eC eR, by omega, by rw [g8 8 (by decide), e8, if_neg (by omega)]⟩
  · obtain ⟨r, I1, I1', f1, f2, f3, f4⟩ := F
    rw [if_neg (fun h => hn ((zlt_n (x := 6) (b := 6) rfl (by omega) (by omega)).1.mp h)), zkI_s, if_pos rfl, if_pos ((zlt_n (x := 6) (b := 6) rfl (by omega) (by omega)).2.mpr (by omega)), f1, f2]
    exact ⟨r, I1, I1', rfl, rfl, by rw [f3]; decide, f4⟩
set_option maxHeartbeats 8000000 in
theorem p_lHole {m nb nk ns nr nh t q : Nat} {B : Nat → Nat} {I K : zTI} {σ : zSg} {J J' : zTJ} (H : zKd 0 m nb nk ns nr nh t B q I K) (hb : nb ≠ 0) : ∃ r I1 I1', zRc σ (nI q) (nI m) 5 I J = some (some (.int r), (zSC σ, I1, J)) ∧ qm_isHoleHere (nI q) K J' = some (some (.int r), (zSM, I1', J')) ∧ zbo r = true ∧ zLn m t B I K r I1 I1' := by
  obtain ⟨⟨a1, a2, b1, b2, hq, T, b10⟩, hz, V, e12, e15, e8, hbm, hm⟩ := id H
  obtain ⟨n0, n1, n2, n3, n4⟩ := V.1
  obtain ⟨s0, s1, s2, s3, s4⟩ := V.2.1
  obtain ⟨c0, c1, c2, c3, c4⟩ := V.2.2.1
  have ht := T.1
  have F := p_full (m := m) (t := t) (q := q) (B := B) (I := I) (K := K) (σ := σ) (J := J) (J' := J') hm (by omega) b10
  unfold zRc
  rw [t_qr_hasPlaceFor, if_neg (show ¬ (5 : Int32) = 0 by decide), c0, if_neg (show ¬ nI nb = (0 : Int32) from fun h => hb (znI (b := 0) (by omega) (by omega) h)), if_neg (show ¬ (5 : Int32) = 1 by decide), if_neg (show ¬ (5 : Int32) = 2 by decide), if_neg (show ¬ (5 : Int32) = 3 by decide), if_neg (show ¬ (5 : Int32) = 4 by decide), if_pos rfl, c4, t_qm_isHoleHere, s4]
  by_cases hn : nh < 4
  · rw [if_pos ((zlt_n (x := 4) (b := 4) rfl (by omega) (by omega)).1.mpr hn), if_neg (fun h => by have := (zlt_n (x := 4) (a := nh) (b := 4) rfl (by omega) (by omega)).2.mp h; omega), zkI_s, if_neg z10]
    · obtain ⟨I2, K2, p2, g1, g2, g3, g4, g5, g6, g7, g8⟩ := zKd_p (σ := σ) (J := J) (J' := J') H
      rw [g1, zkV_s, g2, zkV_s, if_neg (show ¬ (5 : Int32) = 0 by decide), if_neg (show ¬ (5 : Int32) = 1 by decide), if_neg (show ¬ (5 : Int32) = 2 by decide), if_neg (show ¬ (5 : Int32) = 3 by decide), if_neg (show ¬ (5 : Int32) = 4 by decide)]
      obtain ⟨r, I1, I1', k1, k2, k3⟩ := p_hole2 (σ := σ) (J := J) (J' := J') g3 hn (by omega) n0 (by rw [g6]; exact c0) (by rw [g7]; exact s0) (by rw [g6]; exact c4) (by rw [g7]; exact s4)
      rw [k1, zkI_s, k2, zif_t (zOut_b k3)]
      refine ⟨r, I1, I1', rfl, rfl, zOut_b k3, p_lnE k3 (fun Q => ?_) g4 g5 (by rw [g8 12 (by decide)]; exact e12) (by rw [g8 15 (by decide)]; exact e15) hm⟩
      obtain ⟨v0, v1, q0, q1, eC, eR⟩ := Q
      rw [g6] at eC
      rw [g7] at eR
      exact ⟨_, _, _, _, _, zRv_hole V hn q0 q1 eC eR, by omega, by rw [g8 8 (by decide), e8, if_neg (by omega)]⟩
  · obtain ⟨r, I1, I1', f1, f2, f3, f4⟩ := F
    rw [if_neg (fun h => hn ((zlt_n (x := 4) (b := 4) rfl (by omega) (by omega)).1.mp h)), zkI_s, if_pos rfl, if_pos ((zlt_n (x := 4) (b := 4) rfl (by omega) (by omega)).2.mpr (by omega)), f1, f2]
    exact ⟨r, I1, I1', rfl, rfl, by rw [f3]; decide, f4⟩
set_option maxHeartbeats 8000000 in
theorem p_lWish {m nb nk ns nr nh t q : Nat} {B : Nat → Nat} {I K : zTI} {σ : zSg} {J J' : zTJ} (H : zKd 0 m nb nk ns nr nh t B q I K) (hb : nb ≠ 0) : ∃ r I1 I1', zRc σ (nI q) (nI m) 4 I J = some (some (.int r), (zSC σ, I1, J)) ∧ qm_isWishHere K J' = some (some (.int r), (zSM, I1', J')) ∧ zbo r = true ∧ zLn m t B I K r I1 I1' := by
  obtain ⟨⟨a1, a2, b1, b2, hq, T, b10⟩, hz, V, e12, e15, e8, hbm, hm⟩ := id H
  obtain ⟨n0, n1, n2, n3, n4⟩ := V.1
  obtain ⟨s0, s1, s2, s3, s4⟩ := V.2.1
  obtain ⟨c0, c1, c2, c3, c4⟩ := V.2.2.1
  have ht := T.1
  have F := p_full (m := m) (t := t) (q := q) (B := B) (I := I) (K := K) (σ := σ) (J := J) (J' := J') hm (by omega) b10
  unfold zRc
  rw [t_qr_hasPlaceFor, if_neg (show ¬ (4 : Int32) = 0 by decide), c0, if_neg (show ¬ nI nb = (0 : Int32) from fun h => hb (znI (b := 0) (by omega) (by omega) h)), if_neg (show ¬ (4 : Int32) = 1 by decide), if_neg (show ¬ (4 : Int32) = 2 by decide), if_neg (show ¬ (4 : Int32) = 3 by decide), if_pos rfl, t_qm_isWishHere, zkI_s, if_neg z10]
  obtain ⟨I2, K2, p2, g1, g2, g3, g4, g5, g6, g7, g8⟩ := zKd_p (σ := σ) (J := J) (J' := J') H
  rw [g1, zkV_s, g2, zkV_s, if_neg (show ¬ (4 : Int32) = 0 by decide), if_neg (show ¬ (4 : Int32) = 1 by decide), if_neg (show ¬ (4 : Int32) = 2 by decide), if_neg (show ¬ (4 : Int32) = 3 by decide), if_pos rfl]
  obtain ⟨r, I1, I1', k1, k2, k3⟩ := p_wish2 (σ := σ) (J := J) (J' := J') g3 n3 n1 (by rw [g6]; exact c1) (by rw [g7]; exact s1) (by rw [g6]; exact c3) (by rw [g7]; exact s3)
  rw [k1, zkI_s, k2, zif_t (zOut_b k3)]
  refine ⟨r, I1, I1', rfl, rfl, zOut_b k3, p_lnE k3 (fun Q => ?_) g4 g5 (by rw [g8 12 (by decide)]; exact e12) (by rw [g8 15 (by decide)]; exact e15) hm⟩
  obtain ⟨v0, v1, v2, q0, q1, q2, eC, eR⟩ := Q
  rw [g6] at eC
  rw [g7] at eR
  exact ⟨_, _, _, _, _, zRv_wish V q0 q1 q2 eC eR, by omega, by rw [g8 8 (by decide), e8, if_neg (by omega)]⟩
theorem p_lNone {m nb nk ns nr nh t q : Nat} {B : Nat → Nat} {f r3 : Int32} {I K : zTI} {σ : zSg} {J J' : zTJ} (H : zKd f m nb nk ns nr nh t B q I K) (hb : nb = 0) (h3 : ¬ r3 = 0) : ∃ r I1 I1', zRc σ (nI q) (nI m) r3 I J = some (some (.int r), (zSC σ, I1, J)) ∧ (zkI (qm_fails 4 (nI q) K J') zSM (fun r I1 J1 => (zif (zbo r) (some (some (.int r), (zSM, I1, J1)))))) = some (some (.int r), (zSM, I1', J')) ∧ zbo r = true ∧ zLn m t B I K r I1 I1' := by
  obtain ⟨⟨a1, a2, b1, b2, hq, T, b10⟩, hz, V, e12, e15, e8, hbm, hm⟩ := id H
  have ht := T.1
  obtain ⟨r, I1, I1', f1, f2, f3, f4⟩ := p_full (m := m) (t := t) (q := q) (B := B) (I := I) (K := K) (σ := σ) (J := J) (J' := J') hm (by omega) b10
  unfold zRc
  rw [t_qr_hasPlaceFor, if_neg h3, V.2.2.1.1, hb, if_pos (show nI 0 = (0 : Int32) from rfl), zkI_s, if_pos rfl, f1, f2]
  exact ⟨r, I1, I1', rfl, rfl, by rw [f3]; decide, f4⟩
