/-! ===== voyages: the question ===== -/
theorem zIab {x : Int32} {a b : Nat} {lo hi : Int32} (ha : lo = nI a) (hb : hi = nI b) (hbb : b < 2147483648) (haa : a < 2147483648) (h1 : ¬ x < lo) (h2 : ¬ hi < x) : ∃ n, a ≤ n ∧ n ≤ b ∧ x = nI n := by
  subst ha hb
  have p : ¬ x.toInt < a := fun h => h1 (Int32.lt_iff_toInt_lt.mpr (by rw [nI_toInt (by omega)]; exact h))
  have r : ¬ b < x.toInt := fun h => h2 (Int32.lt_iff_toInt_lt.mpr (by rw [nI_toInt (by omega)]; exact h))
  refine ⟨x.toInt.toNat, by omega, by omega, ?_⟩
  apply Int32.toInt_inj.mp
  rw [nI_toInt (by omega)]
  omega
def zvI (I : zTI) (b X : Nat) : zTI := zsI (zsI (zsI (zsI (zsI I 15 4 (nI b)) 15 7 0) 15 8 0) 15 9 0) 15 6 (nI X)
theorem zvI_ne {I : zTI} {b X i : Nat} (h : i ≠ 15) : zvI I b X i = I i := by
  unfold zvI
  rw [zsI_ne _ _ _ h, zsI_ne _ _ _ h, zsI_ne _ _ _ h, zsI_ne _ _ _ h, zsI_ne _ _ _ h]
set_option maxHeartbeats 8000000 in
theorem o_voyages {nb nk ns nr nh t j u : Nat} {σ : zSg} {I I' : zTI} {J J' : zTJ} {x1 x2 x3 x4 x5 x6 : Int32} (H : zSta nb nk ns nr nh t j u I I') (R : zRu σ I I') : zDoR nb nk ns nr nh t σ I I' (qb_voyages x1 x2 x3 x4 x5 x6 σ I J) (qm_voyages x1 x2 x3 x4 x5 x6 I' J') := by
  obtain ⟨T, G, Rg, x, x0, n, e7, e8, e25, e5, e6⟩ := id H
  obtain ⟨⟨n0, n1, n2, n3, n4⟩, ⟨s0, s1, s2, s3, s4⟩, ⟨c0, c1, c2, c3, c4⟩, -⟩ := id G.1
  obtain ⟨nu, g1, g2, g3, g4⟩ := id R
  rw [t_qb_voyages, t_qm_voyages, t_qb_hasRule, t_qm_isRule, g2, g3]
  by_cases q1 : x1 < 0
  · rw [if_pos q1, if_pos q1, zkI_s, zkI_s, if_pos rfl, if_pos rfl]
    exact zDoR_same H ⟨_, rfl, rfl⟩
  rw [if_neg q1, if_neg q1]
  by_cases q2 : x1 < nI nu
  rotate_left
  · rw [if_neg q2, if_neg q2, zkI_s, zkI_s, if_pos rfl, if_pos rfl]
    exact zDoR_same H ⟨_, rfl, rfl⟩
  obtain ⟨tt, htt, rfl⟩ := zNi (by omega) q1 q2
  rw [if_pos q2, if_pos q2, zkI_s, zkI_s, if_neg z10, if_neg z10]
  by_cases qb : x2 < 0 ∨ ¬ x2 < 0 ∧ ¬ x2 < nI nb
  · rw [r0Barge w2 c0 qb, zkI_s, if_pos rfl, q0Barge s0 qb, zkI_s, if_pos rfl]
    exact zDoR_same H ⟨_, rfl, rfl⟩
  have qb1 : ¬ x2 < 0 := fun h => qb (Or.inl h)
  have qb2 : x2 < nI nb := Classical.byContradiction fun h => qb (Or.inr ⟨qb1, h⟩)
  obtain ⟨b, hb, rfl⟩ := zNi (by omega) qb1 qb2
  rw [r1Barge w2 c0 n0 hb, zkI_s, if_neg z10, q1Barge s0 n0 hb, zkI_s, if_neg z10, p_in2 (a := 1) (b := 20) rfl rfl, zkI_s]
  by_cases q3 : x3 < 1
  · rw [if_pos q3, if_neg (show ¬ (¬ x3 < 1 ∧ ¬ 20 < x3) from fun h => h.1 q3), if_pos rfl]
    exact zDoR_same H ⟨_, rfl, rfl⟩
  by_cases q4 : 20 < x3
  · rw [if_neg q3, if_pos q4, if_neg (show ¬ (¬ x3 < 1 ∧ ¬ 20 < x3) from fun h => h.2 q4), if_pos rfl]
    exact zDoR_same H ⟨_, rfl, rfl⟩
  rw [if_neg q3, if_neg q4, if_pos (show ¬ x3 < 1 ∧ ¬ 20 < x3 from ⟨q3, q4⟩), if_neg z10, p_in2 (a := 1) (b := 8) rfl rfl, zkI_s]
  by_cases q5 : x4 < 1
  · rw [if_pos q5, if_neg (show ¬ (¬ x4 < 1 ∧ ¬ 8 < x4) from fun h => h.1 q5), if_pos rfl]
    exact zDoR_same H ⟨_, rfl, rfl⟩
  by_cases q6 : 8 < x4
  · rw [if_neg q5, if_pos q6, if_neg (show ¬ (¬ x4 < 1 ∧ ¬ 8 < x4) from fun h => h.2 q6), if_pos rfl]
    exact zDoR_same H ⟨_, rfl, rfl⟩
  rw [if_neg q5, if_neg q6, if_pos (show ¬ x4 < 1 ∧ ¬ 8 < x4 from ⟨q5, q6⟩), if_neg z10, p_in2 (a := 0) (b := 100) rfl rfl, zkI_s]
  by_cases q7 : x5 < 0
  · rw [if_pos q7, if_neg (show ¬ (¬ x5 < 0 ∧ ¬ 100 < x5) from fun h => h.1 q7), if_pos rfl]
    exact zDoR_same H ⟨_, rfl, rfl⟩
  by_cases q8 : 100 < x5
  · rw [if_neg q7, if_pos q8, if_neg (show ¬ (¬ x5 < 0 ∧ ¬ 100 < x5) from fun h => h.2 q8), if_pos rfl]
    exact zDoR_same H ⟨_, rfl, rfl⟩
  rw [if_neg q7, if_neg q8, if_pos (show ¬ x5 < 0 ∧ ¬ 100 < x5 from ⟨q7, q8⟩), if_neg z10, p_in2 (a := 0) (b := 2) rfl rfl, zkI_s]
  by_cases q9 : x6 < 0
  · rw [if_pos q9, if_neg (show ¬ (¬ x6 < 0 ∧ ¬ 2 < x6) from fun h => h.1 q9), if_pos rfl]
    exact zDoR_same H ⟨_, rfl, rfl⟩
  by_cases qA : 2 < x6
  · rw [if_neg q9, if_pos qA, if_neg (show ¬ (¬ x6 < 0 ∧ ¬ 2 < x6) from fun h => h.2 qA), if_pos rfl]
    exact zDoR_same H ⟨_, rfl, rfl⟩
  obtain ⟨q, cq, lq, sq, L, nc, kd, shf, ss, ts, te, k1, k2, k3, k4, k5, -, k6⟩ := g4 tt htt
  obtain ⟨X, hX, eX⟩ := zNn x0
  obtain ⟨m, hm1, hm2, rfl⟩ := zIab (a := 1) (b := 20) rfl rfl (by omega) (by omega) q3 q4
  obtain ⟨m', hm3, hm4, rfl⟩ := zIab (a := 1) (b := 8) rfl rfl (by omega) (by omega) q5 q6
  have w16 : zwc 16 17 := Or.inr (Or.inl ⟨rfl, rfl⟩)
  rw [if_neg q9, if_neg qA, if_pos (show ¬ x6 < 0 ∧ ¬ 2 < x6 from ⟨q9, qA⟩), if_neg z10, zif_n (by omega) (by omega), ztnn (by omega), k1, zrf_so, t_begin16, zcV_s]
  have kp : qm_keeps (zsI (zsI I' 0 26 0) 0 27 0) (zsJ J' 0 35 ((I' 0 22).toInt64)) = some (none, (zSM, zrI (zsI (zsI I' 0 26 0) 0 27 0) 17 (fun i => if 0 ≤ i ∧ i < 258 then zsI (zsI I' 0 26 0) 0 27 0 10 i else zsI (zsI I' 0 26 0) 0 27 0 17 i), (zsJ J' 0 35 ((I' 0 22).toInt64)))) := by
    rw [t_qm_keeps]
    exact p_keepL 258 0 _ (by omega)
  rw [kp, zkV_s]
  have i10' : zsI (zsI I' 0 26 0) 0 27 0 10 = I' 10 := by rw [zsI_ne _ _ _ (by decide), zsI_ne _ _ _ (by decide)]
  rw [i10']
  generalize eI' : zrI (zsI (zsI I' 0 26 0) 0 27 0) 17 (fun i => if 0 ≤ i ∧ i < 258 then I' 10 i else zsI (zsI I' 0 26 0) 0 27 0 17 i) = Is'
  have r0 : ∀ k, k ≠ 26 → k ≠ 27 → Is' 0 k = I' 0 k := fun k h1 h2 => by rw [← eI', zrI_ne _ _ (by decide), zsI_no _ _ _ h2, zsI_no _ _ _ h1]
  have ri : ∀ i, i ≠ 0 → i ≠ 17 → Is' i = I' i := fun i h1 h2 => by rw [← eI', zrI_ne _ _ h2, zsI_ne _ _ _ h1, zsI_ne _ _ _ h1]
  have r17 : ∀ k, k < 258 → Is' 17 k = I' 10 k := fun k hk => by rw [← eI', zrI_row, if_pos (by omega)]
  have r26 : Is' 0 26 = 0 ∧ Is' 0 27 = 0 := by
    rw [← eI', zrI_ne _ _ (by decide)]
    exact ⟨by rw [zsI_no _ _ _ (by decide), zsI_at], by rw [zsI_at]⟩
  have st : qj_drawVoyages (nI m) (nI m') x5 (some 16, some q, σ.2.2) (zsI (zsI (zsI (zsI I 15 4 (nI b)) 15 7 0) 15 8 0) 15 9 0) J = qj_drawVoyages_14 (nI m) (nI m') x5 0 (some 16, some q, σ.2.2) (zvI I b X) J := by
    have e : qw_cell 2 83 0 (some 16, some q, σ.2.2) (zsI (zsI (zsI (zsI I 15 4 (nI b)) 15 7 0) 15 8 0) 15 9 0) J = _ := p_cellk w2 (y := 83) (a := 83) (k := 0) rfl (by omega) _ _ J
    rw [t_qj_drawVoyages _ _ _ 16 17 q w16, e, zkI_s]
    have e2 : zsI (zsI (zsI (zsI I 15 4 (nI b)) 15 7 0) 15 8 0) 15 9 0 3 (83 + 0) = nI X := by
      rw [zsI_ne _ _ _ (by decide), zsI_ne _ _ _ (by decide), zsI_ne _ _ _ (by decide), zsI_ne _ _ _ (by decide)]
      exact x.trans eX
    rw [e2]
    rfl
  have z3 : zrI (zvI I b X) 17 (va_cpy (zvI I b X 3) (zvI I b X 17) 0 0 251) 3 = I 3 := by rw [zrI_ne _ _ (by decide), zvI_ne (by decide)]
  have cp : ∀ (D : Nat → Int32) (k : Nat), k < 251 → va_cpy (I 3) D 0 0 251 k = I 3 k := fun D k hk => by rw [zva_in (by omega), show 0 + (k - 0) = k by omega]
  have V : zJv nb nk ns nr nh 17 b tt q cq lq sq (zSC (some 16, some q, σ.2.2)) L nc kd shf ss ts te 0 0 (zrI (zvI I b X) 17 (va_cpy (zvI I b X 3) (zvI I b X 17) 0 0 251)) (zrI (zvI I b X) 17 (va_cpy (zvI I b X 3) (zvI I b X 17) 0 0 251)) Is' Is' := by
    refine ⟨?_, ?_, ?_, ?_, ⟨?_, ?_⟩, fun _ _ _ => rfl, fun _ _ => rfl, rfl, fun _ _ _ => rfl, fun _ _ _ _ => rfl, by omega, by omega, by omega, by omega, by decide⟩
    · rw [zrI_row, zvI_ne (by decide), ri 10 (by decide) (by decide)]
      exact zGood_cong G (fun k hk _ => cp _ k hk) (fun k hk => rfl)
    · rw [zrI_ne _ _ (by decide)]
      unfold zvI
      rw [zsI_no _ _ _ (by decide), zsI_no _ _ _ (by decide), zsI_no _ _ _ (by decide), zsI_no _ _ _ (by decide), zsI_at]
    · rw [r0 23 (by decide) (by decide)]
      exact n
    · obtain ⟨r1, r2⟩ := zRl_c (I1 := zrI (zvI I b X) 17 (va_cpy (zvI I b X 3) (zvI I b X 17) 0 0 251)) (I1' := Is') k6 (by rw [zrI_ne _ _ (by omega), zvI_ne (by omega)]) (by rw [zrI_ne _ _ (by omega), zvI_ne (by omega)]) (ri 2 (by decide) (by decide)) (ri 4 (by decide) (by decide)) (ri 5 (by decide) (by decide))
      exact ⟨zRS_c r1 (by omega) (by omega) (by omega) (by omega), r2⟩
    · rw [zrI_ne _ _ (by decide), r26.1]
      unfold zvI
      rw [zsI_no _ _ _ (by decide), zsI_no _ _ _ (by decide), zsI_no _ _ _ (by decide), zsI_at]
      rfl
    · rw [zrI_ne _ _ (by decide), r26.2]
      unfold zvI
      rw [zsI_no _ _ _ (by decide), zsI_no _ _ _ (by decide), zsI_at]
      rfl
  have G0 : zGood nb nk ns nr nh (zrI (zvI I b X) 17 (va_cpy (zvI I b X 3) (zvI I b X 17) 0 0 251) 3) (Is' 17) := by
    rw [z3]
    exact zGood_cong G (fun _ _ _ => rfl) (fun k hk => r17 k hk)
  have h83 : zrI (zvI I b X) 17 (va_cpy (zvI I b X 3) (zvI I b X 17) 0 0 251) 17 83 = zrI (zvI I b X) 17 (va_cpy (zvI I b X 3) (zvI I b X 17) 0 0 251) 3 83 := by
    rw [z3, zrI_row, zvI_ne (by decide), cp _ 83 (by omega)]
  have hXs : zXs (zvI I b X) (zsJ J' 0 35 ((I' 0 22).toInt64)) := ⟨X, hX, by unfold zvI; rw [zsI_at], by rw [zsJ_at, eX, zn6_nI (by omega)]⟩
  have z9 : zvI I b X 15 9 = 0 := by
    unfold zvI
    rw [zsI_no _ _ _ (by decide), zsI_at]
  obtain ⟨I0', I1, J1, I1', J1', f1, f2, f3, f4⟩ := p_outL (n := m) (m := m') (x4 := x5) (x6 := x6) (tt := tt) (by omega) hb hm4 hm2 m 0 _ (zvI I b X) J Is' _ (by omega) G0 h83 V hXs
  rw [z9] at f2
  rw [show qm_voyages_98 (nI tt) (nI b) (nI m) (nI m') x5 x6 0 0 Is' (zsJ J' 0 35 ((I' 0 22).toInt64)) = _ from f2]
  obtain ⟨v1, v2, v3, v4, ⟨v5, v5'⟩, v6, v7, v8, v9, v10, d1, d2, d3, d4, d5⟩ := id f3
  have i1 : ∀ i, i ≠ 17 → i ≠ 15 → I1 i = I i := fun i h1 h2 => by
    have := v6 i h1 h2
    rw [zrI_ne _ _ h1, f4 i h2, zrI_ne _ _ h1, zvI_ne h2] at this
    exact this
  have fin : (∃ j u, zSta nb nk ns nr nh t j u I1 I1') ∧ zKC I I1 ∧ zKM I' I1' := by
    refine ⟨⟨j, u, ?_, ?_, ?_, ?_, ?_, v3, ?_, ?_, ?_, ?_, ?_⟩, ⟨fun i hi => i1 i (by omega) (by omega), by rw [i1 0 (by decide) (by decide)]⟩, ⟨fun i hi => by rw [v9 i (by omega) (by omega), ri i (by omega) (by omega)], by rw [v10 2 (by decide) (by decide) (by decide), r0 2 (by decide) (by decide)]⟩⟩
    · obtain ⟨t1, t2, t3, t4⟩ := T
      refine ⟨?_, ?_, t3, fun i hi => ?_⟩
      · rw [i1 0 (by decide) (by decide)]
        exact t1
      · rw [v10 1 (by decide) (by decide) (by decide), r0 1 (by decide) (by decide)]
        exact t2
      · rw [i1 1 (by decide) (by decide), v9 1 (by decide) (by decide), ri 1 (by decide) (by decide)]
        exact t4 i hi
    · rw [zrI_row] at v1
      rw [i1 3 (by decide) (by decide)] at v1 ⊢
      exact zGood_cong v1 (fun k hk _ => (cp _ k hk).symm) (fun _ _ => rfl)
    · rw [i1 3 (by decide) (by decide), i1 6 (by decide) (by decide), v9 11 (by decide) (by decide), ri 11 (by decide) (by decide)]
      exact Rg
    · rw [i1 3 (by decide) (by decide), v10 22 (by decide) (by decide) (by decide), r0 22 (by decide) (by decide)]
      exact x
    · rw [v10 22 (by decide) (by decide) (by decide), r0 22 (by decide) (by decide)]
      exact x0
    · rw [i1 0 (by decide) (by decide)]
      exact e7
    · rw [i1 0 (by decide) (by decide)]
      exact e8
    · rw [v10 25 (by decide) (by decide) (by decide), r0 25 (by decide) (by decide)]
      exact e25
    · rw [i1 0 (by decide) (by decide), v10 2 (by decide) (by decide) (by decide), r0 2 (by decide) (by decide)]
      exact e5
    · rw [i1 25 (by decide) (by decide)]
      exact e6
  rw [zrI_ne _ _ (by decide), z_add0] at v5 v5'
  show zDoR nb nk ns nr nh t σ I I' (zkV (qj_drawVoyages (nI m) (nI m') x5 (some 16, some q, σ.2.2) (zsI (zsI (zsI (zsI I 15 4 (nI b)) 15 7 0) 15 8 0) 15 9 0) J) (zSC (some 16, some q, σ.2.2)) (fun I13 J14 => (if x6 = 0 then (some (some (.int (I13 15 9)), (zSC (some 16, some q, σ.2.2), I13, J14))) else (if x6 = 1 then (some (some (.int (I13 15 7)), (zSC (some 16, some q, σ.2.2), I13, J14))) else (some (some (.int (I13 15 8)), (zSC (some 16, some q, σ.2.2), I13, J14))))))) _
  rw [st, show qj_drawVoyages_14 (nI m) (nI m') x5 0 (some 16, some q, σ.2.2) (zvI I b X) J = _ from f1, zkV_s, v5, v5']
  by_cases y0 : x6 = 0
  · rw [if_pos y0, if_pos y0]
    exact ⟨_, some 16, some q, I1, I1', J1, J1', rfl, rfl, fin⟩
  · rw [if_neg y0, if_neg y0]
    by_cases y1 : x6 = 1
    · rw [if_pos y1, if_pos y1]
      exact ⟨_, some 16, some q, I1, I1', J1, J1', rfl, rfl, fin⟩
    · rw [if_neg y1, if_neg y1]
      exact ⟨_, some 16, some q, I1, I1', J1, J1', rfl, rfl, fin⟩
