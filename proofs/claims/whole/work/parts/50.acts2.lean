/-! ===== acts: plug, sail, lend, fetch ===== -/
theorem z100_inj {a b : Nat} (ha : a < 1000) (hb : b < 1000) (e : (100 : Int32) + nI a = 100 + nI b) : a = b := by
  rw [zy_100, zy_100] at e
  have := znI (by omega) (by omega) e
  omega
/-- a book that fits a hole -/
def zft (S : Nat → Int32) (k h : Nat) : Bool := decide (S (20 + 7 * k + 4) = 100 + S (246 + 3 * h + 0)) && !decide (S (20 + 7 * k + 0) < S (246 + 3 * h + 1))
theorem p_fits {w c : Nat} (hwc : zwc w c) {nb nk ns nr nh k h : Nat} {σ : zSg} {I : zTI} {J : zTJ} {S : Nat → Int32} (G : zGood nb nk ns nr nh (I c) S) (hk : k < nk) (hh : h < nh) : qw_fits w (nI k) (nI h) σ I J = some (some (.int (if zft S k h then 1 else 0)), (zSC σ, I, J)) := by
  obtain ⟨⟨n0, n1, n2, n3, n4⟩, ⟨s0, s1, s2, s3, s4⟩, ⟨c0, c1, c2, c3, c4⟩, -, hB, hK, -, -, hH⟩ := id G.1
  obtain ⟨h0, h1, h2⟩ := hH h hh
  obtain ⟨k0, -, -, -, k4, -⟩ := hK k hk
  obtain ⟨b, hb, eb⟩ := zk_h0 G.1.ns G.2.1 hh
  rw [t_qw_fits w _ _ c hwc, p_bargeOfW hwc c1 n1 hk, zkI_s, k4]
  unfold zft
  rcases zbw_case n0 n2 n3 (zk_b4 G.1.ns G.2.1 hk) with ⟨b', hb', ew, eb'⟩ | ⟨eb', no⟩
  · rw [eb', if_neg (znm (by omega)), pc243 hwc (by omega), zkI_s, h0, eb, ew]
    by_cases qb : b' = b
    · subst qb
      rw [if_pos rfl, pc97 hwc (by omega), zkI_s, pc247 hwc (by omega), zkI_s, k0, h1, decide_eq_true rfl, Bool.true_and]
      by_cases ql : S (20 + 7 * k + 0) < S (246 + 3 * h + 1)
      · rw [if_pos ql, decide_eq_true ql]; rfl
      · rw [if_neg ql, decide_eq_false ql]; rfl
    · rw [if_neg (fun e => qb (znI (by omega) (by omega) e)), decide_eq_false (fun e => qb (z100_inj (by omega) (by omega) e))]; rfl
  · rw [eb', if_pos rfl, eb, decide_eq_false (no b hb)]; rfl
theorem p_couldPlug {nb nk ns nr nh k h : Nat} {I : zTI} {J : zTJ} {C : Nat → Int32} (G : zGood nb nk ns nr nh C (I 10)) (hk : k < 12) (hh : h < nh) : qm_couldPlug (nI k) (nI h) I J = some (some (.int (if zft (I 10) k h then 1 else 0)), (zSM, I, J)) := by
  obtain ⟨⟨n0, n1, n2, n3, n4⟩, -⟩ := id G.1
  obtain ⟨b, hb, eb⟩ := zk_h0 G.1.ns G.2.1 hh
  rw [t_qm_couldPlug, ph0 (by omega), zkI_s, eb, p_isAboard (by omega), zkI_s]
  unfold zft
  rw [eb]
  by_cases q : I 10 (20 + 7 * k + 4) = 100 + nI b
  · rw [if_pos q, if_neg z10, pb0 (by omega), zkI_s, ph1 (by omega), zkI_s, decide_eq_true q, Bool.true_and]
    by_cases ql : I 10 (20 + 7 * k + 0) < I 10 (246 + 3 * h + 1)
    · rw [if_pos ql, decide_eq_true ql]; rfl
    · rw [if_neg ql, decide_eq_false ql]; rfl
  · rw [if_neg q, if_pos rfl, decide_eq_false q]; rfl
theorem p_isOpen {w c : Nat} (hwc : zwc w c) {nb nk ns nr nh h : Nat} {σ : zSg} {I : zTI} {J : zTJ} {S : Nat → Int32} (G : zGood nb nk ns nr nh (I c) S) (hh : h < nh) : qw_isOpen w (nI h) σ I J = some (some (.int (if S (246 + 3 * h + 2) = 0 then 1 else 0)), (zSC σ, I, J)) := by
  obtain ⟨⟨n0, n1, n2, n3, n4⟩, -, ⟨c0, c1, c2, c3, c4⟩, -, hB, hK, -, -, hH⟩ := id G.1
  obtain ⟨h0, h1, h2⟩ := hH h hh
  rw [t_qw_isOpen w _ c hwc, r1Hole hwc c4 n4 hh, zkI_s, if_neg z10, zy7, zif_n (by omega) (by omega), ztnn (by omega), h2]
  split <;> rfl
theorem o_plug {nb nk ns nr nh t j u : Nat} {σ : zSg} {I I' : zTI} {J J' : zTJ} (H : zSta nb nk ns nr nh t j u I I') (x1 x2 : Int32) : zDo nb nk ns nr nh t σ I I' (qb_plug x1 x2 σ I J) (qm_plug x1 x2 I' J') := by
  obtain ⟨T, G, -⟩ := id H
  obtain ⟨⟨n0, n1, n2, n3, n4⟩, ⟨s0, s1, s2, s3, s4⟩, ⟨c0, c1, c2, c3, c4⟩, -, hB, hK, -, -, hH⟩ := id G.1
  rw [t_qb_plug, t_qm_plug]
  rcases zcase x1 nh (by omega) with ⟨h, hh, rfl⟩ | g
  · obtain ⟨h0, h1, h2⟩ := hH h hh
    rw [p_isOpen w2 G hh, zkI_s, q1Hole s4 n4 hh, zkI_s, if_neg z10]
    rcases zcase x2 nk (by omega) with ⟨k, hk, rfl⟩ | g
    · rw [q1Book s1 n1 hk, zkI_s, if_neg z10, ph2 (by omega), zkI_s, p_couldPlug G (by omega) hh, zkI_s, p_fits w2 G hk hh, zkI_s]
      obtain ⟨b, hb, eb⟩ := zk_h0 G.1.ns G.2.1 hh
      rcases zk_h2 G.1.ns G.2.1 hh with e2 | e2
      · rw [e2, if_pos rfl, if_neg z10, if_neg (show ¬ (0 : Int32) = 1 by decide)]
        by_cases qf : zft (I' 10) k h = true
        · rw [if_pos qf, if_neg z10, if_neg z10]
          refine zDo_act (J := J) (J' := J') H fun I1 I1' a1 a2 a3 a4 a5 => ?_
          rw [a1, zkV_s, a2, zkV_s, zy7, zif_n (by omega) (by omega), zy47, zif_n (by omega) (by omega), ztnn (by omega), ztnn (by omega), p_stands (by omega), zkV_s, zxh2, zif_n (by omega) (by omega), ztnn (by omega)]
          simp only [zsI_zrI, zrI_zrI, zrI_row]
          have G' : zGood nb nk ns nr nh (upd (upd (I1 3) (7 + h) 1) (47 + k) 300) (upd (upd (I1' 10) (20 + 7 * k + 4) 300) (246 + 3 * h + 2) 1) := by
            rw [a3, a4, u_cm _ _ _ (by omega)]
            have A := zAb_off G.2.2.1 n0 n1 (k := k) (v := 300) (fun b hb e => by
              rw [zy_100] at e
              have := znI (a := 300) (by decide) (by omega) e
              omega)
            refine zGood_upd (zGood_upd G (Or.inr (Or.inr (Or.inl ⟨k, hk, by omega⟩))) (zBd_where G.1.ns hk (Or.inr (Or.inr (Or.inr rfl)))) A) (Or.inr (Or.inr (Or.inr (Or.inr ⟨h, hh, by omega⟩)))) (zBd_stopped G.1.ns hh (Or.inr rfl)) (zAb_no A n0 n1 (fun _ _ => by omega) (fun _ _ => by omega))
          have G1 : zGood nb nk ns nr nh (zrI I1 3 (upd (upd (I1 3) (7 + h) 1) (47 + k) 300) 3) (zrI I1' 10 (upd (upd (I1' 10) (20 + 7 * k + 4) 300) (246 + 3 * h + 2) 1) 10) := by
            rw [zrI_row, zrI_row]
            exact G'
          rw [pc243 w2 (by omega), zkI_s, ph0 (by omega), zkI_s]
          have e1 : zrI I1 3 (upd (upd (I1 3) (7 + h) 1) (47 + k) 300) 3 (243 + h) = nI b := by
            rw [zrI_row, u_no (by omega), u_no (by omega), a3, h0, eb]
          have e2 : zrI I1' 10 (upd (upd (I1' 10) (20 + 7 * k + 4) 300) (246 + 3 * h + 2) 1) 10 (246 + 3 * h + 0) = nI b := by
            rw [zrI_row, u_no (by omega), u_no (by omega), a4, eb]
          rw [e1, e2, p_draughtG w2 G1 hb, zkI_s, p_draughtM G1 hb, zkI_s]
          refine ⟨_, _, _, _, _, rfl, rfl, fun k' hk' => ?_, G'⟩
          rw [u_no (by omega), u_no (by omega), a3]
        · rw [if_neg qf, if_pos rfl, if_pos rfl]
          exact zDo_same H ⟨_, rfl, rfl⟩
      · rw [e2, if_neg (show ¬ (1 : Int32) = 0 by decide), if_pos rfl, if_pos rfl]
        exact zDo_same H ⟨_, rfl, rfl⟩
    · rw [t_qw_fits 2 _ _ 3 w2, p_bargeOfW0 w2 c1 g, zkI_s, if_pos rfl, zkI_s, if_pos rfl, q0Book s1 g, zkI_s, if_pos rfl]
      split
      · exact zDo_same H ⟨_, rfl, rfl⟩
      · exact zDo_same H ⟨_, rfl, rfl⟩
  · rw [t_qw_isOpen 2 _ 3 w2, r0Hole w2 c4 g, zkI_s, if_pos rfl, zkI_s, if_pos rfl, q0Hole s4 g, zkI_s, if_pos rfl]
    exact zDo_same H ⟨_, rfl, rfl⟩
/-- passing a stop, in both -/
theorem p_passG {w c : Nat} (hwc : zwc w c) {nb nk ns nr nh b s : Nat} {σ : zSg} {I I' : zTI} {J J' : zTJ} (G : zGood nb nk ns nr nh (I c) (I' 10)) (hin : I' 0 23 = 0) (hb : b < nb) (hs : s < ns) : ∃ r, qw_passes w (nI b) (nI s) σ I J = some (some (.int r), (zSC σ, I, J)) ∧ qm_passesNow (nI b) (nI s) I' J' = some (some (.int r), (zSM, I', J')) ∧ (r = 0 ∨ r = 1) := by
  obtain ⟨⟨n0, n1, n2, n3, n4⟩, ⟨s0, s1, s2, s3, s4⟩, ⟨c0, c1, c2, c3, c4⟩, cD, hB, hK, hT, -⟩ := id G.1
  obtain ⟨n, g1, g4, en, ej⟩ := hT s hs
  obtain ⟨d, hd, ed⟩ := zk_day G.2.1
  obtain ⟨g2, g3⟩ := G.wb.1 b hb
  rw [t_qw_passes w _ _ c hwc, p_depthOfW hwc hs n2 c2 (d := d) (by omega) (by rw [cD]; exact ed), zkI_s, p_draughtG hwc G hb, zkI_s, p_passesNow (s := s) (d := d) (n := n) (by omega) (by omega) ed g1 g4 en (by omega) n1 s1 (fun e => g2 (by rw [e]; decide)) (fun e => g3 (by rw [e]; decide)), hin, z_add0, ej _ (by omega)]
  by_cases q : I' 10 (104 + 5 * s + 1 + min (d / 90 % 4) (n - 1)) < zdrB (I' 10) nk b (zset (zab (I' 10) b) nk)
  · rw [if_pos q, if_pos q]
    exact ⟨_, rfl, rfl, Or.inl rfl⟩
  · rw [if_neg q, if_neg q]
    exact ⟨_, rfl, rfl, Or.inr rfl⟩
theorem z_seek {ns : Nat} (hn : ns ≤ 8) (x : Int32) : (∃ s, s < ns ∧ x = nI s) ∨ (x < 0 ∨ ¬ x < 0 ∧ ¬ x < nI ns) := zcase x ns (by omega)
theorem o_sail {nb nk ns nr nh t j u : Nat} {σ : zSg} {I I' : zTI} {J J' : zTJ} (H : zSta nb nk ns nr nh t j u I I') (x1 x2 : Int32) : zDo nb nk ns nr nh t σ I I' (qb_sail x1 x2 σ I J) (qm_sail x1 x2 I' J') := by
  obtain ⟨T, G, -, -, -, hin, -⟩ := id H
  obtain ⟨⟨n0, n1, n2, n3, n4⟩, ⟨s0, s1, s2, s3, s4⟩, ⟨c0, c1, c2, c3, c4⟩, -, hB, hK, -⟩ := id G.1
  rw [t_qb_sail, t_qm_sail]
  rcases zcase x1 nb (by omega) with ⟨b, hb, rfl⟩ | h
  · obtain ⟨-, -, -, -, -, b5, -⟩ := hB b hb
    rw [r1Barge w2 c0 n0 hb, zkI_s, if_neg z10, q1Barge s0 n0 hb, zkI_s, if_neg z10, pc1 w2 (by omega), zkI_s, pst (by omega), zkI_s, b5]
    have go : ∀ y : Int32, zDo nb nk ns nr nh t σ I I' (zkI (qw_hasStop 2 y σ I J) (zSC σ) (fun r9 I7 J8 => (if r9 = 0 then (some (some (.int (-1)), ((zSC σ), I7, J8))) else (zkI (qw_passes 2 (nI b) y σ I7 J8) (zSC σ) (fun r12 I10 J11 => (if r12 = 0 then (some (some (.int (-1)), ((zSC σ), I10, J11))) else (zkV (qb_remember σ I10 J11) (zSC σ) (fun I13 J14 => (zif (zin (1 + nI b) 251) (some (some (.int y), ((zSC σ), (zsI I13 3 ((1 + nI b).toNatClampNeg) y), J14)))))))))))) (zkI (qm_isStop y I' J') zSM (fun r9 I7 J8 => (if r9 = 0 then (some (some (.int (-1)), (zSM, I7, J8))) else (zkI (qm_passesNow (nI b) y I7 J8) zSM (fun r12 I10 J11 => (if r12 = 0 then (some (some (.int (-1)), (zSM, I10, J11))) else (zkV (qm_keepsAct I10 J11) zSM (fun I13 J14 => (zif (zin ((6 + (7 * nI b)) + 5) 258) (some (some (.int y), (zSM, (zsI I13 10 (((6 + (7 * nI b)) + 5).toNatClampNeg) y), J14)))))))))))) := by
      intro y
      rcases zcase y ns (by omega) with ⟨s, hs, rfl⟩ | h
      · obtain ⟨r, e1, e2, er⟩ := p_passG w2 (σ := σ) (J := J) (J' := J') G hin hb hs
        rw [r1Stop w2 c2 n2 hs, zkI_s, if_neg z10, q1Stop s2 n2 hs, zkI_s, if_neg z10, e1, zkI_s, e2, zkI_s]
        rcases er with rfl | rfl
        · rw [if_pos rfl, if_pos rfl]
          exact zDo_same H ⟨_, rfl, rfl⟩
        · rw [if_neg z10, if_neg z10]
          refine zDo_act (J := J) (J' := J') H fun I1 I1' a1 a2 a3 a4 a5 => ?_
          rw [a1, zkV_s, a2, zkV_s, zy1, zif_n (by omega) (by omega), ztnn (by omega), zxg5, zif_n (by omega) (by omega), ztnn (by omega), zsI_zrI, zsI_zrI]
          refine ⟨_, _, _, _, _, rfl, rfl, fun k' hk' => ?_, ?_⟩
          · rw [u_no (by omega), a3]
          · rw [a3, a4]
            exact zGood_upd G (Or.inr (Or.inl ⟨b, hb, by omega⟩)) (zBd_at G.1.ns hb ⟨s, hs, rfl⟩) (zAb_no G.2.2.1 n0 n1 (fun _ _ => by omega) (fun _ _ => by omega))
      · rw [r0Stop w2 c2 h, zkI_s, if_pos rfl, q0Stop s2 h, zkI_s, if_pos rfl]
        exact zDo_same H ⟨_, rfl, rfl⟩
    by_cases q : x2 = 0
    · rw [if_pos q, if_pos q]
      exact go _
    · rw [if_neg q, if_neg q]
      exact go _
  · rw [r0Barge w2 c0 h, zkI_s, if_pos rfl, q0Barge s0 h, zkI_s, if_pos rfl]
    exact zDo_same H ⟨_, rfl, rfl⟩
