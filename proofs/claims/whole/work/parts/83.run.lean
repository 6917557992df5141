/-! ===== by a rule: one stop, some stops ===== -/
set_option maxHeartbeats 4000000 in
theorem p_goOne {w c q : Nat} (hwc : zwc w c) {ρ : (Nat → Option Nat) × (Nat → Option Nat) × List zE} {nb nk ns nr nh b tt cq lq sq : Nat} {L : List Nat} {nc : Nat} {kd shf ss ts te : Nat → Nat} {dl da : Int32} {I0 I I'0 I' : zTI} {J J' : zTJ} (htt : tt < 6) (hb : b < nb) (V : zJv nb nk ns nr nh c b tt q cq lq sq (zSC (some w, some q, ρ)) L nc kd shf ss ts te dl da I0 I I'0 I') : ∃ r I1 J1 I1' J1', qj_goOneStop (some w, some q, ρ) I J = some (some (.int r), (zSC (some w, some q, ρ), I1, J1)) ∧ qm_goesOn (nI tt) (nI b) I' J' = some (some (.int r), (zSM, I1', J1')) ∧ (r = 0 ∨ r = 1) ∧ zJv nb nk ns nr nh c b tt q cq lq sq (zSC (some w, some q, ρ)) L nc kd shf ss ts te dl da I0 I1 I'0 I1' ∧ J1' 0 = J' 0 := by
  obtain ⟨v1, v2, v3, v4, ⟨v5, v5'⟩, v6, v7, v8, v9, v10, d1, d2, d3, d4, d5⟩ := id V
  obtain ⟨⟨n0, n1, n2, n3, n4⟩, ⟨s0, s1, s2, s3, s4⟩, ⟨c0, c1, c2, c3, c4⟩, -⟩ := id v1.1
  obtain ⟨a, ha, ea⟩ := zk_g5 v1.1.ns v1.2.1 hb
  obtain ⟨dy, hdy, edy⟩ := zk_day v1.2.1
  obtain ⟨J1, b1, b2, b3, b4⟩ := p_tellBarge (q := q) hwc (ρ := ρ) (J := J) v1 hb v2 ea ha hdy edy
  obtain ⟨I2, J2, I2', J2', f1, f2, f3, f4, f5, f6, f7⟩ := p_fetchL hwc (ρ := ρ) (q := q) htt hb ha hdy nk 0 I J1 I' J' (by omega) V ea edy b3 (rfl : J' 0 = J' 0)
  obtain ⟨I3, J3, I3', J3', g1, g2, g3, g4, g5, g6, g7⟩ := p_shiftL hwc (ρ := ρ) (q := q) htt hb ha hdy nk 0 I2 J2 I2' J2' (by omega) f3 f4 f5 f6 f7
  obtain ⟨x1, x2, -⟩ := id g3
  obtain ⟨-, ⟨t0, t1, t2, t3, t4⟩, ⟨e0, e1, e2, e3, e4⟩, -, hB, -⟩ := id x1.1
  rw [t_qj_goOneStop w c q hwc, v2, r1Barge hwc c0 n0 hb, zkI_s, if_neg z10, b1, zkV_s, t_qj_fetchByRule w c q hwc, show qj_fetchByRule_2 0 (some w, some q, ρ) I J1 = _ from f1, zkV_s, t_qj_shiftByRule w c q hwc, show qj_shiftByRule_2 0 (some w, some q, ρ) I2 J2 = _ from g1, zkV_s, t_qj_here w c q hwc, x2, pc1 hwc (by omega), zkI_s, zkI_s, (hB b hb).2.2.2.2.2.1, g4, nI_1]
  rw [t_qm_goesOn, show qm_goesOn_2 (nI tt) (nI b) 0 I' J' = _ from f2, show qm_goesOn_52 (nI tt) (nI b) 0 I2' J2' = _ from g2, t_qm_goesOn_52, t1, if_neg (show ¬ nI nk < nI nk from fun h => by have := (nI_ltI (by omega) (by omega)).mp h; omega), pst (by omega), zkI_s, g4, nI_1]
  by_cases hs : a + 1 < ns
  · have hcl := zcnt_le (zab (I3' 10) b) nk
    obtain ⟨r, I4, J4, I4', J4', h1, h2, h3, h4, h5⟩ := p_lighten hwc (ρ := ρ) (q := q) htt hb hs hdy _ 0 I3 J3 I3' J3' rfl (by omega) g3 g4 g5 g7
    rw [r1Stop hwc e2 n2 hs, zkI_s, if_neg z10, q1Stop t2 n2 hs, zkI_s, if_neg z10, t_qj_lightenByRule _ w c q hwc, show qj_lightenByRule_2 (nI (a + 1)) 0 (some w, some q, ρ) I3 J3 = _ from h1, zkI_s, h2, zkI_s]
    rcases h3 with rfl | rfl
    · rw [if_pos rfl, if_pos rfl]
      exact ⟨0, I4, J4, I4', J4', rfl, rfl, Or.inl rfl, h4, h5⟩
    · rw [if_neg z10, if_neg z10, h4.2.1, zy1, zif_n (by omega) (by omega), ztnn (by omega), zxg5, zif_n (by omega) (by omega), ztnn (by omega), zsI_zrI, zsI_zrI]
      have G5 : zGood nb nk ns nr nh (upd (I4 c) (1 + b) (nI (a + 1))) (upd (I4' 10) (6 + 7 * b + 5) (nI (a + 1))) := zGood_upd h4.1 (Or.inr (Or.inl ⟨b, hb, by omega⟩)) (zBd_at h4.1.1.ns hb ⟨a + 1, hs, rfl⟩) (zAb_no h4.1.2.2.1 n0 n1 (fun _ _ => by omega) (fun _ _ => by omega))
      exact ⟨1, _, J4, _, J4', rfl, rfl, Or.inr rfl, zJv_r h4 G5 (u_no (by omega)), h5⟩
  · have no : nI (a + 1) < 0 ∨ ¬ nI (a + 1) < 0 ∧ ¬ nI (a + 1) < nI ns := Or.inr ⟨znn (by omega), fun h => hs ((nI_ltI (by omega) (by omega)).mp h)⟩
    rw [r0Stop hwc e2 no, zkI_s, if_pos rfl, q0Stop t2 no, zkI_s, if_pos rfl]
    exact ⟨0, I3, J3, I3', J3', rfl, rfl, Or.inl rfl, g3, g7⟩
theorem p_runL {q : Nat} {ρ : (Nat → Option Nat) × (Nat → Option Nat) × List zE} {nb nk ns nr nh b tt cq lq sq n : Nat} {L : List Nat} {nc : Nat} {kd shf ss ts te : Nat → Nat} {dl da : Int32} {I0 I'0 : zTI} (htt : tt < 6) (hb : b < nb) (hn : n ≤ 8) : ∀ (m i : Nat) (g : Int32) (I : zTI) (J : zTJ) (I' : zTI) (J' : zTJ), i + m = n → (g = 0 ∨ g = 1) → zJv nb nk ns nr nh 3 b tt q cq lq sq (zSC (some 2, some q, ρ)) L nc kd shf ss ts te dl da I0 I I'0 I' → ∃ v I1 J1 I1' J1', qb_run_60 (nI b) (nI n) g (nI i) (some 2, some q, ρ) I J = some (some (.int v), (zSC (some 2, some q, ρ), I1, J1)) ∧ qm_run_41 (nI tt) (nI b) (nI n) g (nI i) I' J' = some (some (.int v), (zSM, I1', J1')) ∧ zJv nb nk ns nr nh 3 b tt q cq lq sq (zSC (some 2, some q, ρ)) L nc kd shf ss ts te dl da I0 I1 I'0 I1' := by
  intro m
  have fin : ∀ (I : zTI) (J : zTJ) (I' : zTI) (J' : zTJ), zJv nb nk ns nr nh 3 b tt q cq lq sq (zSC (some 2, some q, ρ)) L nc kd shf ss ts te dl da I0 I I'0 I' → ∃ v I1 J1 I1' J1', (zkI (qw_cell 2 1 (nI b) (some 2, some q, ρ) I J) (zSC (some 2, some q, ρ)) (fun r9 I7 J8 => (some (some (.int r9), ((zSC (some 2, some q, ρ)), I7, J8))))) = some (some (.int v), (zSC (some 2, some q, ρ), I1, J1)) ∧ (zkI (qm_stopOf (nI b) I' J') zSM (fun r9 I7 J8 => (some (some (.int r9), (zSM, I7, J8))))) = some (some (.int v), (zSM, I1', J1')) ∧ zJv nb nk ns nr nh 3 b tt q cq lq sq (zSC (some 2, some q, ρ)) L nc kd shf ss ts te dl da I0 I1 I'0 I1' := by
    intro I J I' J' V
    have n0 := V.1.1.ns.1
    have hB := V.1.1.2.2.2.2.1
    rw [pc1 w2 (by omega), zkI_s, pst (by omega), zkI_s, (hB b hb).2.2.2.2.2.1]
    exact ⟨_, I, J, I', J', rfl, rfl, V⟩
  induction m with
  | zero =>
    intro i g I J I' J' e hg V
    have hno : ¬ nI i < nI n := fun h => by have := (nI_ltI (by omega) (by omega)).mp h; omega
    rw [t_qb_run_60, if_neg hno, t_qm_run_41, if_neg hno]
    exact fin I J I' J' V
  | succ m ih =>
    intro i g I J I' J' e hg V
    have hyes : nI i < nI n := nI_lt (by omega) (by omega)
    rw [t_qb_run_60, if_pos hyes, t_qm_run_41, if_pos hyes]
    rcases hg with rfl | rfl
    · rw [if_pos rfl, if_pos rfl]
      exact fin I J I' J' V
    · obtain ⟨r, I1, J1, I1', J1', h1, h2, h3, h4, -⟩ := p_goOne w2 (J := J) (J' := J') htt hb V
      rw [if_neg z10, if_neg z10, h1, zkI_s, h2, zkI_s, nI_1]
      exact ih (i + 1) r I1 J1 I1' J1' (by omega) h3 h4
