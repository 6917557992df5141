/-! ===== the run of a barge ===== -/
/-- as zDo, but the journey may be another -/
def zDoR (nb nk ns nr nh t : Nat) (σ : zSg) (I I' : zTI) (x y : Option zR) : Prop := ∃ r a b I1 I1' J1 J1', x = some (some (.int r), (zSC (a, b, σ.2.2), I1, J1)) ∧ y = some (some (.int r), (zSM, I1', J1')) ∧ (∃ j u, zSta nb nk ns nr nh t j u I1 I1') ∧ zKC I I1 ∧ zKM I' I1'
theorem zDoR_same {nb nk ns nr nh t j u : Nat} {σ : zSg} {I I' : zTI} {J J' : zTJ} {x y : Option zR} (H : zSta nb nk ns nr nh t j u I I') (h : ∃ r, x = some (some (.int r), (zSC σ, I, J)) ∧ y = some (some (.int r), (zSM, I', J'))) : zDoR nb nk ns nr nh t σ I I' x y := by
  obtain ⟨r, h1, h2⟩ := h
  exact ⟨r, σ.1, σ.2.1, I, I', J, J', h1, h2, ⟨j, u, H⟩, zKC.rf, zKM.rf⟩
theorem zI18 {x : Int32} (h1 : ¬ x < 1) (h2 : ¬ 8 < x) : ∃ n, 1 ≤ n ∧ n ≤ 8 ∧ x = nI n := by
  have a : ¬ x.toInt < 1 := fun h => h1 (Int32.lt_iff_toInt_lt.mpr h)
  have b : ¬ 8 < x.toInt := fun h => h2 (Int32.lt_iff_toInt_lt.mpr h)
  refine ⟨x.toInt.toNat, by omega, by omega, ?_⟩
  apply Int32.toInt_inj.mp
  rw [nI_toInt (by omega)]
  omega
theorem zNn {x : Int32} (h : ¬ x < 0) : ∃ n, n < 2147483648 ∧ x = nI n := by
  have a : ¬ x.toInt < 0 := fun h' => h (Int32.lt_iff_toInt_lt.mpr h')
  have b := x.toInt_lt
  refine ⟨x.toInt.toNat, by omega, ?_⟩
  apply Int32.toInt_inj.mp
  rw [nI_toInt (by omega)]
  omega
theorem zNi {x : Int32} {m : Nat} (hm : m < 2147483648) (h : ¬ x < 0) (h2 : x < nI m) : ∃ n, n < m ∧ x = nI n := by
  obtain ⟨n, hn, rfl⟩ := zNn h
  exact ⟨n, (nI_ltI hn hm).mp h2, rfl⟩
set_option maxHeartbeats 4000000 in
theorem o_run {nb nk ns nr nh t j u : Nat} {σ : zSg} {I I' : zTI} {J J' : zTJ} {x1 x2 x3 : Int32} (H : zSta nb nk ns nr nh t j u I I') (R : zRu σ I I') : zDoR nb nk ns nr nh t σ I I' (qb_run x1 x2 x3 σ I J) (qm_run x1 x2 x3 I' J') := by
  obtain ⟨T, G, Rg, x, x0, n, e7, e8, e25, e5, e6⟩ := id H
  obtain ⟨⟨n0, n1, n2, n3, n4⟩, ⟨s0, s1, s2, s3, s4⟩, ⟨c0, c1, c2, c3, c4⟩, -⟩ := id G.1
  obtain ⟨nu, g1, g2, g3, g4⟩ := id R
  rw [t_qb_run, t_qm_run, t_qb_hasRule, t_qm_isRule, g2, g3]
  by_cases q1 : x1 < 0
  · rw [if_pos q1, if_pos q1, zkI_s, zkI_s, if_pos rfl, if_pos rfl]
    exact zDoR_same H ⟨_, rfl, rfl⟩
  rw [if_neg q1, if_neg q1]
  by_cases q2 : x1 < nI nu
  rotate_left
  · rw [if_neg q2, if_neg q2, zkI_s, zkI_s, if_pos rfl, if_pos rfl]
    exact zDoR_same H ⟨_, rfl, rfl⟩
  obtain ⟨tt, htt, rfl⟩ := zNi (by omega) q1 q2
  rw [if_pos q2, if_pos q2, zkI_s, zkI_s, if_neg z10, if_neg z10]
  by_cases qb : x2 < 0 ∨ ¬ x2 < 0 ∧ ¬ x2 < nI nb
  · rw [r0Barge w2 c0 qb, zkI_s, if_pos rfl, q0Barge s0 qb, zkI_s, if_pos rfl]
    exact zDoR_same H ⟨_, rfl, rfl⟩
  have qb1 : ¬ x2 < 0 := fun h => qb (Or.inl h)
  have qb2 : x2 < nI nb := Classical.byContradiction fun h => qb (Or.inr ⟨qb1, h⟩)
  obtain ⟨b, hb, rfl⟩ := zNi (by omega) qb1 qb2
  rw [r1Barge w2 c0 n0 hb, zkI_s, if_neg z10, q1Barge s0 n0 hb, zkI_s, if_neg z10, p_in2 (a := 1) (b := 8) rfl rfl, zkI_s]
  by_cases q3 : x3 < 1
  · rw [if_pos q3, if_neg (show ¬ (¬ x3 < 1 ∧ ¬ 8 < x3) from fun h => h.1 q3), if_pos rfl]
    exact zDoR_same H ⟨_, rfl, rfl⟩
  by_cases q4 : 8 < x3
  · rw [if_neg q3, if_pos q4, if_neg (show ¬ (¬ x3 < 1 ∧ ¬ 8 < x3) from fun h => h.2 q4), if_pos rfl]
    exact zDoR_same H ⟨_, rfl, rfl⟩
  obtain ⟨m, hm1, hm8, rfl⟩ := zI18 q3 q4
  obtain ⟨q, cq, lq, sq, L, nc, kd, shf, ss, ts, te, k1, k2, k3, k4, k5, -, k6⟩ := g4 tt htt
  rw [if_neg q3, if_neg q4, if_pos (show ¬ nI m < 1 ∧ ¬ 8 < nI m from ⟨q3, q4⟩), if_neg z10, t_qb_forgetActs, zkV_s, zif_n (by omega) (by omega), ztnn (by omega), k1, zrf_so, t_begin2, zcV_s]
  have V : zJv nb nk ns nr nh 3 b tt q cq lq sq (zSC (some 2, some q, σ.2.2)) L nc kd shf ss ts te (I' 0 26) (I' 0 27) (zsI (zsI (zsI (zsI (zsI I 0 8 0) 15 4 (nI b)) 15 7 0) 15 8 0) 15 9 0) (zsI (zsI (zsI (zsI (zsI I 0 8 0) 15 4 (nI b)) 15 7 0) 15 8 0) 15 9 0) (zsI I' 0 25 0) (zsI I' 0 25 0) := by
    refine ⟨?_, ?_, ?_, ?_, ⟨?_, ?_⟩, fun _ _ _ => rfl, fun _ _ => rfl, rfl, fun _ _ _ => rfl, fun _ _ _ _ => rfl, by omega, by omega, by omega, by omega, by decide⟩
    · rw [zsI_ne _ _ _ (by decide), zsI_ne _ _ _ (by decide), zsI_ne _ _ _ (by decide), zsI_ne _ _ _ (by decide), zsI_ne _ _ _ (by decide), zsI_ne _ _ _ (by decide)]
      exact G
    · rw [zsI_no _ _ _ (by decide), zsI_no _ _ _ (by decide), zsI_no _ _ _ (by decide), zsI_at]
    · rw [zsI_no _ _ _ (by decide)]
      exact n
    · obtain ⟨r1, r2⟩ := zRl_c (I1 := zsI (zsI (zsI (zsI (zsI I 0 8 0) 15 4 (nI b)) 15 7 0) 15 8 0) 15 9 0) (I1' := zsI I' 0 25 0) k6 (by rw [zsI_ne _ _ _ (by omega), zsI_ne _ _ _ (by omega), zsI_ne _ _ _ (by omega), zsI_ne _ _ _ (by omega), zsI_ne _ _ _ (by omega)]) (by rw [zsI_ne _ _ _ (by omega), zsI_ne _ _ _ (by omega), zsI_ne _ _ _ (by omega), zsI_ne _ _ _ (by omega), zsI_ne _ _ _ (by omega)]) (zsI_ne _ _ _ (by decide)) (zsI_ne _ _ _ (by decide)) (zsI_ne _ _ _ (by decide))
      exact ⟨zRS_c r1 (by omega) (by omega) (by omega) (by omega), r2⟩
    · rw [zsI_no _ _ _ (by decide), zsI_no _ _ _ (by decide), zsI_at, zsI_no _ _ _ (by decide)]
      exact Int32.zero_add _
    · rw [zsI_no _ _ _ (by decide), zsI_at, zsI_no _ _ _ (by decide)]
      exact Int32.zero_add _
  obtain ⟨v, I1, J1, I1', J1', f1, f2, f3⟩ := p_runL (ρ := σ.2.2) (tt := tt) (n := m) (by omega) hb hm8 m 0 1 _ J _ J' (by omega) (Or.inr rfl) V
  obtain ⟨v1, v2, v3, v4, ⟨v5, v5'⟩, v6, v7, v8, v9, v10, d1, d2, d3, d4, d5⟩ := id f3
  refine ⟨v, some 2, some q, I1, I1', J1, J1', f1, f2, ⟨j, 0, ?_, v1, ⟨Rg.1, by omega, fun i hi => by omega⟩, ?_, ?_, v3, ?_, ?_, ?_, ?_, ?_⟩, ⟨fun i hi => ?_, ?_⟩, ⟨fun i hi => ?_, ?_⟩⟩
  · obtain ⟨t1, t2, t3, t4⟩ := T
    refine ⟨?_, ?_, t3, fun i hi => ?_⟩
    · rw [v6 0 (by decide) (by decide), zsI_ne _ _ _ (by decide), zsI_ne _ _ _ (by decide), zsI_ne _ _ _ (by decide), zsI_ne _ _ _ (by decide), zsI_no _ _ _ (by decide)]
      exact t1
    · rw [v10 1 (by decide) (by decide) (by decide), zsI_no _ _ _ (by decide)]
      exact t2
    · rw [v6 1 (by decide) (by decide), v9 1 (by decide) (by decide), zsI_ne _ _ _ (by decide), zsI_ne _ _ _ (by decide), zsI_ne _ _ _ (by decide), zsI_ne _ _ _ (by decide), zsI_ne _ _ _ (by decide), zsI_ne _ _ _ (by decide)]
      exact t4 i hi
  · rw [v8, v10 22 (by decide) (by decide) (by decide), zsI_no _ _ _ (by decide), zsI_ne _ _ _ (by decide), zsI_ne _ _ _ (by decide), zsI_ne _ _ _ (by decide), zsI_ne _ _ _ (by decide), zsI_ne _ _ _ (by decide)]
    exact x
  · rw [v10 22 (by decide) (by decide) (by decide), zsI_no _ _ _ (by decide)]
    exact x0
  · rw [v6 0 (by decide) (by decide), zsI_ne _ _ _ (by decide), zsI_ne _ _ _ (by decide), zsI_ne _ _ _ (by decide), zsI_ne _ _ _ (by decide), zsI_no _ _ _ (by decide)]
    exact e7
  · rw [v6 0 (by decide) (by decide), zsI_ne _ _ _ (by decide), zsI_ne _ _ _ (by decide), zsI_ne _ _ _ (by decide), zsI_ne _ _ _ (by decide), zsI_at]
    rfl
  · rw [v10 25 (by decide) (by decide) (by decide), zsI_at]
    rfl
  · rw [v6 0 (by decide) (by decide), zsI_ne _ _ _ (by decide), zsI_ne _ _ _ (by decide), zsI_ne _ _ _ (by decide), zsI_ne _ _ _ (by decide), zsI_no _ _ _ (by decide), v10 2 (by decide) (by decide) (by decide), zsI_no _ _ _ (by decide)]
    exact e5
  · rw [v6 25 (by decide) (by decide), zsI_ne _ _ _ (by decide), zsI_ne _ _ _ (by decide), zsI_ne _ _ _ (by decide), zsI_ne _ _ _ (by decide), zsI_ne _ _ _ (by decide)]
    exact e6
  · rw [v6 i (by omega) (by omega), zsI_ne _ _ _ (by omega), zsI_ne _ _ _ (by omega), zsI_ne _ _ _ (by omega), zsI_ne _ _ _ (by omega), zsI_ne _ _ _ (by omega)]
  · rw [v6 0 (by decide) (by decide), zsI_ne _ _ _ (by decide), zsI_ne _ _ _ (by decide), zsI_ne _ _ _ (by decide), zsI_ne _ _ _ (by decide), zsI_no _ _ _ (by decide)]
  · rw [v9 i (by omega) (by omega), zsI_ne _ _ _ (by omega)]
  · rw [v10 2 (by decide) (by decide) (by decide), zsI_no _ _ _ (by decide)]
