/-! ===== acts: lend, fetch ===== -/
theorem p_coins {w c : Nat} (hwc : zwc w c) {r k : Nat} (hr : r < 6) (hk : k < 12) (σ : zSg) (I : zTI) (J : zTJ) : qw_coins w (nI r) (nI k) σ I J = some (some (.int (I c (171 + (12 * r + k)))), (zSC σ, I, J)) := by
  rw [t_qw_coins w _ _ c hwc, show qw_cell w 171 (nI r * 12 + nI k) σ I J = _ from p_cell hwc (n := 171 + (12 * r + k)) (by rw [show nI r * 12 = nI (12 * r) from by rw [Nat.mul_comm]; exact (Int32.ofNat_mul r 12).symm, nI_add]; exact nI_add 171 _) (by omega) σ I J, zkI_s]
theorem zy_200 (k : Nat) : ((200 : Int32) + nI k) = nI (200 + k) := nI_add 200 k
def zlnC (C : Nat → Int32) (b k r : Nat) : Nat → Int32 := upd (upd (upd (upd (upd (upd C (47 + k) (nI (200 + r))) (71 + k) (C 0 + C (165 + r))) (59 + k) (C (59 + k) + 1)) (11 + r) (nI k)) (17 + r) (C (17 + r) + 1)) (5 + b) (C (5 + b) + C (171 + (12 * r + k)))
def zlnS (S : Nat → Int32) (b k r : Nat) : Nat → Int32 := upd (upd (upd (upd (upd (upd S (6 + 7 * b + 6) (S (6 + 7 * b + 6) + S (174 + 12 * r + k))) (20 + 7 * k + 4) (nI (200 + r))) (20 + 7 * k + 5) (S (20 + 7 * k + 5) + 1)) (20 + 7 * k + 6) (S 5 + S (144 + 5 * r + 2))) (144 + 5 * r + 3) (nI k)) (144 + 5 * r + 4) (S (144 + 5 * r + 4) + 1)
theorem p_giveTo {w c : Nat} (hwc : zwc w c) {nb nk nr b k r : Nat} {σ : zSg} {I : zTI} {J : zTJ} (c0 : I c 84 = nI nb) (n0 : nb ≤ 2) (hb : b < nb) (c1 : I c 85 = nI nk) (n1 : nk ≤ 12) (hk : k < nk) (c3 : I c 87 = nI nr) (n3 : nr ≤ 6) (hr : r < nr) : qw_giveTo w (nI r) (nI k) (nI b) σ I J = some (none, (zSC σ, zrI I c (zlnC (I c) b k r), J)) := by
  rw [t_qw_giveTo w _ _ _ c hwc, r1Reader hwc c3 n3 hr, zkI_s, if_neg z10, r1Book hwc c1 n1 hk, zkI_s, if_neg z10, r1Barge hwc c0 n0 hb, zkI_s, if_neg z10]
  simp only [zy47, zy165, zy71, zy59, zy11, zy17, zy5, zy_200]
  simp only [zif_n (show 47 + k < 251 by omega) (show 251 < 2 ^ 31 by omega), zif_n (show 165 + r < 251 by omega) (show 251 < 2 ^ 31 by omega), zif_n (show 71 + k < 251 by omega) (show 251 < 2 ^ 31 by omega), zif_n (show 59 + k < 251 by omega) (show 251 < 2 ^ 31 by omega), zif_n (show 11 + r < 251 by omega) (show 251 < 2 ^ 31 by omega), zif_n (show 17 + r < 251 by omega) (show 251 < 2 ^ 31 by omega), zif_n (show 5 + b < 251 by omega) (show 251 < 2 ^ 31 by omega), ztnn (show 47 + k < 2 ^ 31 by omega), ztnn (show 165 + r < 2 ^ 31 by omega), ztnn (show 71 + k < 2 ^ 31 by omega), ztnn (show 59 + k < 2 ^ 31 by omega), ztnn (show 11 + r < 2 ^ 31 by omega), ztnn (show 17 + r < 2 ^ 31 by omega), ztnn (show 5 + b < 2 ^ 31 by omega)]
  simp only [zsI_zrI, zrI_zrI, zrI_row]
  rw [p_coins hwc (by omega) (by omega), zkI_s]
  simp only [zrI_zrI, zrI_row]
  unfold zlnC
  simp only [u_no (f := I c) (show 0 ≠ 47 + k by omega), u_no (f := I c) (show 165 + r ≠ 47 + k by omega), u_no (show 59 + k ≠ 71 + k by omega), u_no (show 59 + k ≠ 47 + k by omega), u_no (show 17 + r ≠ 11 + r by omega), u_no (show 17 + r ≠ 59 + k by omega), u_no (show 17 + r ≠ 71 + k by omega), u_no (show 17 + r ≠ 47 + k by omega), u_no (show 5 + b ≠ 17 + r by omega), u_no (show 5 + b ≠ 11 + r by omega), u_no (show 5 + b ≠ 59 + k by omega), u_no (show 5 + b ≠ 71 + k by omega), u_no (show 5 + b ≠ 47 + k by omega), u_no (show 171 + (12 * r + k) ≠ 17 + r by omega), u_no (show 171 + (12 * r + k) ≠ 11 + r by omega), u_no (show 171 + (12 * r + k) ≠ 59 + k by omega), u_no (show 171 + (12 * r + k) ≠ 71 + k by omega), u_no (show 171 + (12 * r + k) ≠ 47 + k by omega)]
theorem p_lends {b k r : Nat} {I : zTI} {J : zTJ} (hk : k < 12) (hr : r < 6) (hb : b < 2) (ew : I 10 (20 + 7 * k + 4) = 100 + nI b) : qm_lends (nI k) (nI r) I J = some (none, (zSM, zrI I 10 (zlnS (I 10) b k r), J)) := by
  have eb : zbw (I 10 (20 + 7 * k + 4)) = nI b := by
    rw [ew]
    rcases (show b = 0 ∨ b = 1 by omega) with rfl | rfl
    · decide
    · decide
  rw [t_qm_lends, p_bargeWith hk, zkI_s, eb, zxg6, zif_n (by omega) (by omega), ztnn (by omega), pw_ hr hk, zkI_s, zif_n (by omega) (by omega), p_stands hk, zkV_s]
  simp only [zxb5, zxb6, zxr3, zxr4, zy_200]
  simp only [zif_n (show 20 + 7 * k + 5 < 258 by omega) (show 258 < 2 ^ 31 by omega), zif_n (show 20 + 7 * k + 6 < 258 by omega) (show 258 < 2 ^ 31 by omega), zif_n (show 144 + 5 * r + 3 < 258 by omega) (show 258 < 2 ^ 31 by omega), zif_n (show 144 + 5 * r + 4 < 258 by omega) (show 258 < 2 ^ 31 by omega), ztnn (show 20 + 7 * k + 5 < 2 ^ 31 by omega), ztnn (show 20 + 7 * k + 6 < 2 ^ 31 by omega), ztnn (show 144 + 5 * r + 3 < 2 ^ 31 by omega), ztnn (show 144 + 5 * r + 4 < 2 ^ 31 by omega)]
  simp only [zsI_zrI, zrI_zrI, zrI_row]
  rw [pr2 hr, zkI_s]
  simp only [zrI_zrI, zrI_row]
  unfold zlnS
  simp only [u_no (show 20 + 7 * k + 5 ≠ 20 + 7 * k + 4 by omega), u_no (show 20 + 7 * k + 5 ≠ 6 + 7 * b + 6 by omega), u_no (show 5 ≠ 20 + 7 * k + 5 by omega), u_no (show 5 ≠ 20 + 7 * k + 4 by omega), u_no (show 5 ≠ 6 + 7 * b + 6 by omega), u_no (show 144 + 5 * r + 2 ≠ 20 + 7 * k + 5 by omega), u_no (show 144 + 5 * r + 2 ≠ 20 + 7 * k + 4 by omega), u_no (show 144 + 5 * r + 2 ≠ 6 + 7 * b + 6 by omega), u_no (show 144 + 5 * r + 4 ≠ 144 + 5 * r + 3 by omega), u_no (show 144 + 5 * r + 4 ≠ 20 + 7 * k + 6 by omega), u_no (show 144 + 5 * r + 4 ≠ 20 + 7 * k + 5 by omega), u_no (show 144 + 5 * r + 4 ≠ 20 + 7 * k + 4 by omega), u_no (show 144 + 5 * r + 4 ≠ 6 + 7 * b + 6 by omega)]
set_option maxHeartbeats 4000000 in
theorem zG_lend {nb nk ns nr nh b k r : Nat} {C S : Nat → Int32} (G : zGood nb nk ns nr nh C S) (hb : b < nb) (hk : k < nk) (hr : r < nr) : zGood nb nk ns nr nh (zlnC C b k r) (zlnS S b k r) := by
  obtain ⟨⟨n0, n1, n2, n3, n4⟩, -, -, cD, hB, hK, -, hR, -⟩ := id G.1
  obtain ⟨-, -, -, -, -, -, b6⟩ := hB b hb
  obtain ⟨-, -, -, -, -, k5, -⟩ := hK k hk
  obtain ⟨-, -, r2, -, r4, rw_⟩ := hR r hr
  have eC : zlnC C b k r = upd (upd (upd (upd (upd (upd C (5 + b) (S (6 + 7 * b + 6) + S (174 + 12 * r + k))) (47 + k) (nI (200 + r))) (59 + k) (S (20 + 7 * k + 5) + 1)) (71 + k) (S 5 + S (144 + 5 * r + 2))) (11 + r) (nI k)) (17 + r) (S (144 + 5 * r + 4) + 1) := by
    unfold zlnC
    rw [cD, b6, k5, r2, r4, rw_ k (by omega)]
    rw [u_cm _ _ _ (show 17 + r ≠ 5 + b by omega), u_cm _ _ _ (show 11 + r ≠ 5 + b by omega), u_cm _ _ _ (show 59 + k ≠ 5 + b by omega), u_cm _ _ _ (show 71 + k ≠ 5 + b by omega), u_cm _ _ _ (show 47 + k ≠ 5 + b by omega), u_cm _ _ _ (show 71 + k ≠ 59 + k by omega)]
  rw [eC]
  unfold zlnS
  have N := G.1.ns
  have G1 := zGood_upd G (i := 5 + b) (j := 6 + 7 * b + 6) (v := S (6 + 7 * b + 6) + S (174 + 12 * r + k)) (Or.inr (Or.inl ⟨b, hb, by omega⟩)) (zBd_earned N hb trivial) (zAb_no G.2.2.1 n0 n1 (fun _ _ => by omega) (fun _ _ => by omega))
  have G2 := zGood_upd G1 (i := 47 + k) (j := 20 + 7 * k + 4) (v := nI (200 + r)) (Or.inr (Or.inr (Or.inl ⟨k, hk, by omega⟩))) (zBd_where N hk (Or.inr (Or.inr (Or.inl ⟨r, hr, rfl⟩)))) (zAb_off G1.2.2.1 n0 n1 fun b' hb' e => by
    rw [zy_100] at e
    have := znI (by omega) (by omega) e
    omega)
  have G3 := zGood_upd G2 (i := 59 + k) (j := 20 + 7 * k + 5) (v := S (20 + 7 * k + 5) + 1) (Or.inr (Or.inr (Or.inl ⟨k, hk, by omega⟩))) (zBd_loans N hk trivial) (zAb_no G2.2.2.1 n0 n1 (fun _ _ => by omega) (fun _ _ => by omega))
  have G4 := zGood_upd G3 (i := 71 + k) (j := 20 + 7 * k + 6) (v := S 5 + S (144 + 5 * r + 2)) (Or.inr (Or.inr (Or.inl ⟨k, hk, by omega⟩))) (zBd_due N hk trivial) (zAb_no G3.2.2.1 n0 n1 (fun _ _ => by omega) (fun _ _ => by omega))
  have G5 := zGood_upd G4 (i := 11 + r) (j := 144 + 5 * r + 3) (v := nI k) (Or.inr (Or.inr (Or.inr (Or.inl ⟨r, hr, by omega⟩)))) (zBd_has N hr (Or.inr ⟨k, hk, rfl⟩)) (zAb_no G4.2.2.1 n0 n1 (fun _ _ => by omega) (fun _ _ => by omega))
  exact zGood_upd G5 (i := 17 + r) (j := 144 + 5 * r + 4) (Or.inr (Or.inr (Or.inr (Or.inl ⟨r, hr, by omega⟩)))) (zBd_served N hr trivial) (zAb_no G5.2.2.1 n0 n1 (fun _ _ => by omega) (fun _ _ => by omega))
theorem o_lend {nb nk ns nr nh t j u : Nat} {σ : zSg} {I I' : zTI} {J J' : zTJ} (H : zSta nb nk ns nr nh t j u I I') (x1 x2 : Int32) : zDo nb nk ns nr nh t σ I I' (qb_lend x1 x2 σ I J) (qm_lend x1 x2 I' J') := by
  obtain ⟨T, G, -⟩ := id H
  obtain ⟨⟨n0, n1, n2, n3, n4⟩, ⟨s0, s1, s2, s3, s4⟩, ⟨c0, c1, c2, c3, c4⟩, -, hB, hK, -, hR, -⟩ := id G.1
  rw [t_qb_lend, t_qm_lend]
  rcases zcase x1 nk (by omega) with ⟨k, hk, rfl⟩ | h
  · obtain ⟨-, -, -, -, k4, -⟩ := hK k hk
    rw [p_bargeOfW w2 c1 n1 hk, zkI_s, q1Book s1 n1 hk, zkI_s, if_neg z10, k4]
    rcases zcase x2 nr (by omega) with ⟨r, hr, rfl⟩ | h
    · obtain ⟨r0, -, -, r3, -⟩ := hR r hr
      rw [q1Reader s3 n3 hr, zkI_s, if_neg z10, t_qm_canLend, p_bargeWith (by omega), zkI_s]
      rcases zbw_case n0 n2 n3 (zk_b4 G.1.ns G.2.1 hk) with ⟨b, hb, ew, eb⟩ | ⟨eb, -⟩
      · obtain ⟨-, -, -, -, -, b5, -⟩ := hB b hb
        rw [eb, if_neg (znm (by omega)), if_neg (znn (by omega)), t_qw_waitsFor 2 _ _ 3 w2, r1Reader w2 c3 n3 hr, zkI_s, if_neg z10, zy153, zif_n (by omega) (by omega), ztnn (by omega), pc1 w2 (by omega), zkI_s, zy11, zif_n (by omega) (by omega), ztnn (by omega), r0, r3, b5, pr0 (by omega), zkI_s, pst (by omega), zkI_s]
        by_cases q : I' 10 (144 + 5 * r + 0) = I' 10 (6 + 7 * b + 5)
        · rw [if_pos q, if_pos q, pr3 (by omega), zkI_s]
          rcases zk_r3 G.1.ns G.2.1 hr with e | ⟨d, hd, e⟩
          · rw [e, if_pos rfl, if_pos (show (-1 : Int32) < 0 by decide), zkI_s, if_neg z10, zkI_s, if_neg z10, p_bargeWith (by omega), zkI_s, eb]
            refine zDo_act (J := J) (J' := J') H fun I1 I1' a1 a2 a3 a4 a5 => ?_
            rw [a1, zkV_s, a2, zkV_s, p_giveTo w2 (by rw [a3]; exact c0) n0 hb (by rw [a3]; exact c1) n1 hk (by rw [a3]; exact c3) n3 hr, zkV_s, p_lends (b := b) (by omega) (by omega) (by omega) (by rw [a4]; exact ew), zkV_s]
            have G' : zGood nb nk ns nr nh (zlnC (I1 3) b k r) (zlnS (I1' 10) b k r) := by
              rw [a3, a4]
              exact zG_lend G hb hk hr
            have G1 : zGood nb nk ns nr nh (zrI I1 3 (zlnC (I1 3) b k r) 3) (zrI I1' 10 (zlnS (I1' 10) b k r) 10) := by
              rw [zrI_row, zrI_row]
              exact G'
            rw [p_draughtG w2 G1 hb, zkI_s, p_draughtM G1 hb, zkI_s]
            refine ⟨_, _, _, _, _, rfl, rfl, fun k' hk' => ?_, G'⟩
            unfold zlnC
            rw [u_no (by omega), u_no (by omega), u_no (by omega), u_no (by omega), u_no (by omega), u_no (by omega), a3]
          · rw [e, if_neg (znm (by omega)), if_neg (znn (by omega)), zkI_s, if_pos rfl, zkI_s, if_pos rfl]
            exact zDo_same H ⟨_, rfl, rfl⟩
        · rw [if_neg q, if_neg q, zkI_s, if_pos rfl, zkI_s, if_pos rfl]
          exact zDo_same H ⟨_, rfl, rfl⟩
      · rw [eb, if_pos rfl, if_pos (show (-1 : Int32) < 0 by decide), zkI_s, if_pos rfl]
        exact zDo_same H ⟨_, rfl, rfl⟩
    · rw [q0Reader s3 h, zkI_s, if_pos rfl]
      rcases zbw_case n0 n2 n3 (zk_b4 G.1.ns G.2.1 hk) with ⟨b, hb, ew, eb⟩ | ⟨eb, -⟩
      · rw [eb, if_neg (znm (by omega)), t_qw_waitsFor 2 _ _ 3 w2, r0Reader w2 c3 h, zkI_s, if_pos rfl, zkI_s, if_pos rfl]
        exact zDo_same H ⟨_, rfl, rfl⟩
      · rw [eb, if_pos rfl]
        exact zDo_same H ⟨_, rfl, rfl⟩
  · rw [p_bargeOfW0 w2 c1 h, zkI_s, if_pos rfl, q0Book s1 h, zkI_s, if_pos rfl]
    exact zDo_same H ⟨_, rfl, rfl⟩
