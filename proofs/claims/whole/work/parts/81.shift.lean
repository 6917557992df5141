/-! ===== by a rule: fetching, shifting ===== -/
theorem zrs_q {sh : List zE} {q cq lq sq n m : Nat} (R : zRS sh q cq lq sq n m) : ∃ k0 rf, sh[q]? = some (7, k0, rf) := by
  obtain ⟨k0, rf, r1, r2, r3, r4, hq, -⟩ := R
  exact ⟨k0, rf, hq⟩
theorem zsh_b {nb nk ns nr nh b k : Nat} {S : Nat → Int32} (N : zNs nb nk ns nr nh) (O : zOK nb nk ns nr nh S) (hb : b < nb) (hk : k < nk) : ¬ zsh S b k < 0 ∧ zsh S b k < S (6 + 7 * b + 0) := by
  obtain ⟨n, m1, m2, en⟩ := zk_g0 N O hb
  obtain ⟨s, hs, es⟩ := zk_b3 N O hk
  unfold zsh
  rw [es, en]
  by_cases q : s < n
  · rw [if_pos (nI_lt q (by omega))]
    exact ⟨znn (by omega), nI_lt q (by omega)⟩
  · rw [if_neg (fun h => q ((nI_ltI (by omega) (by omega)).mp h)), show nI n - 1 = nI (n - 1) from z_sub1 (k := 1) (by omega)]
    exact ⟨znn (by omega), nI_lt (by omega) (by omega)⟩
set_option maxHeartbeats 4000000 in
theorem p_fetchL {w c q : Nat} (hwc : zwc w c) {ρ : (Nat → Option Nat) × (Nat → Option Nat) × List zE} {nb nk ns nr nh b a dy tt cq lq sq : Nat} {L : List Nat} {nc : Nat} {kd shf ss ts te : Nat → Nat} {dl da : Int32} {I0 I'0 : zTI} {j0 : Nat → Int64} (htt : tt < 6) (hb : b < nb) (ha : a < ns) (hdy : dy ≤ 9999) : ∀ (m k : Nat) (I : zTI) (J : zTJ) (I' : zTI) (J' : zTJ), k + m = nk → zJv nb nk ns nr nh c b tt q cq lq sq (zSC (some w, some q, ρ)) L nc kd shf ss ts te dl da I0 I I'0 I' → I' 10 (6 + 7 * b + 5) = nI a → I' 10 5 = nI dy → (∀ j, zwQ j → J 18 j = zwB (I c) (I' 10) nk ns dy b a j) → J' 0 = j0 → ∃ I1 J1 I1' J1', qj_fetchByRule_2 (nI k) (some w, some q, ρ) I J = some (none, (zSC (some w, some q, ρ), I1, J1)) ∧ qm_goesOn_2 (nI tt) (nI b) (nI k) I' J' = qm_goesOn_52 (nI tt) (nI b) 0 I1' J1' ∧ zJv nb nk ns nr nh c b tt q cq lq sq (zSC (some w, some q, ρ)) L nc kd shf ss ts te dl da I0 I1 I'0 I1' ∧ I1' 10 (6 + 7 * b + 5) = nI a ∧ I1' 10 5 = nI dy ∧ (∀ j, zwQ j → J1 18 j = zwB (I1 c) (I1' 10) nk ns dy b a j) ∧ J1' 0 = j0 := by
  intro m
  induction m with
  | zero =>
    intro k I J I' J' ek V ea edy hB hj0
    obtain ⟨⟨n0, n1, n2, n3, n4⟩, ⟨s0, s1, s2, s3, s4⟩, ⟨c0, c1, c2, c3, c4⟩, -⟩ := id V.1.1
    have hno : ¬ nI k < nI nk := fun h => by have := (nI_ltI (by omega) (by omega)).mp h; omega
    rw [t_qj_fetchByRule_2 _ w c q hwc, c1, if_neg hno, t_qm_goesOn_2, s1, if_neg hno]
    exact ⟨I, J, I', J', rfl, rfl, V, ea, edy, hB, hj0⟩
  | succ m ih =>
    intro k I J I' J' ek V ea edy hB hj0
    obtain ⟨v1, v2, v3, v4, ⟨v5, v5'⟩, v6, v7, v8, v9, v10, d1, d2, d3, d4, d5⟩ := id V
    obtain ⟨⟨n0, n1, n2, n3, n4⟩, ⟨s0, s1, s2, s3, s4⟩, ⟨c0, c1, c2, c3, c4⟩, -⟩ := id v1.1
    obtain ⟨k0, rf, hq⟩ := zrs_q v4.1
    have hk : k < nk := by omega
    have hyes : nI k < nI nk := nI_lt hk (by omega)
    obtain ⟨r, f1, f2, fr⟩ := p_fetchG hwc (σ := (some w, some q, ρ)) (J := J) (J' := J') v1 hk hb
    rw [t_qj_fetchByRule_2 _ w c q hwc, c1, if_pos hyes, v2, f1, zkI_s, t_qm_goesOn_2, s1, if_pos hyes, f2, zkI_s, nI_1]
    rcases fr with rfl | ⟨rfl, hw⟩
    · rw [if_pos rfl, if_pos rfl]
      exact ih (k + 1) I J I' J' (by omega) V ea edy hB hj0
    · obtain ⟨o, oc, J1, J2, I1', J1', g1, g2, g3, g4, g5, g6, g7, g8, g9, g10, g11⟩ := p_clause hwc (κ := 1) (x2 := 1) (J := J) (J' := J') V htt hb hk ea ha hdy edy hB (by omega) (Or.inr ⟨by omega, rfl⟩)
      have ea1 : I1' 10 (6 + 7 * b + 5) = nI a := by rw [g8.1 10 (by decide)]; exact ea
      have edy1 : I1' 10 5 = nI dy := by rw [g8.1 10 (by decide)]; exact edy
      have ic : zsI I 15 5 (zkE o) c = I c := zsI_ne _ _ _ d5
      have i15 : zsI I 15 5 (zkE o) 15 4 = nI b := by rw [zsI_no _ _ _ (by decide)]; exact v2
      have hB1 : ∀ j, zwQ j → J2 18 j = zwB (zsI I 15 5 (zkE o) c) (I1' 10) nk ns dy b a j := fun j hj => by
        rw [g9 j (by unfold zwQ at hj; omega), ic, g8.1 10 (by decide)]
        exact if_pos hj
      rw [if_neg z10, if_neg z10, g1, zkV_s, zob_s hq, show ql_firstClause q 1 1 (zSC (some w, some q, ρ)) (zsI I 15 5 (zkE o)) J1 = _ from g2, zkI_s, show qm_clauseFor (nI tt) 1 (nI k) (nI b) I' J' = _ from g3, zkI_s]
      cases oc with
      | none =>
        rw [show zcA1 none = -1 from rfl, if_pos rfl, show zcB2 tt none = -1 from rfl, if_pos (show (-1 : Int32) < 0 by decide)]
        exact ih (k + 1) _ J2 I1' J1' (by omega) g7 ea1 edy1 hB1 (g11.trans hj0)
      | some c' =>
        obtain ⟨hc', -, -⟩ := g4 c' rfl
        have hnc := v4.2.2.1
        have G1 := g7.1
        obtain ⟨y0, y1⟩ := zsh_b G1.1.ns G1.2.1 hb hk
        obtain ⟨C', S', t1, t2, t3, t4, t5⟩ := p_takeG hwc (σ := (some w, some q, ρ)) (J := J2) (J' := J1') G1 hk hb y0 y1 (by rw [g8.1 10 (by decide)]; exact hw)
        rw [show zcA1 (some c') = nI c' from rfl, if_neg (znm (by omega)), show zcB2 tt (some c') = nI (60 * tt + 5 * c') from rfl, if_neg (znn (by omega)), pc23 hwc (by omega), zkI_s, i15, p_shelfOfW hwc (by omega), zkI_s, z_sh G1 hb hk, t1, zkV_s, p_shelfIn (by omega) (by omega), zkI_s, t2, zkV_s]
        have V2 := zJv_r g7 t3 (t4 83 (by omega))
        have ea2 : zrI I1' 10 S' 10 (6 + 7 * b + 5) = nI a := by rw [zrI_row, t5 _ (by omega)]; exact ea1
        have edy2 : zrI I1' 10 S' 10 5 = nI dy := by rw [zrI_row, t5 _ (by omega)]; exact edy1
        obtain ⟨J5, b1, b2, b3, b4⟩ := p_tellBarge (q := q) hwc (ρ := ρ) (J := J2) V2.1 hb V2.2.1 ea2 ha hdy edy2
        rw [b1, zkV_s]
        exact ih (k + 1) _ J5 _ J1' (by omega) V2 ea2 edy2 b3 (g11.trans hj0)
set_option maxHeartbeats 4000000 in
theorem p_shiftL {w c q : Nat} (hwc : zwc w c) {ρ : (Nat → Option Nat) × (Nat → Option Nat) × List zE} {nb nk ns nr nh b a dy tt cq lq sq : Nat} {L : List Nat} {nc : Nat} {kd shf ss ts te : Nat → Nat} {dl da : Int32} {I0 I'0 : zTI} {j0 : Nat → Int64} (htt : tt < 6) (hb : b < nb) (ha : a < ns) (hdy : dy ≤ 9999) : ∀ (m k : Nat) (I : zTI) (J : zTJ) (I' : zTI) (J' : zTJ), k + m = nk → zJv nb nk ns nr nh c b tt q cq lq sq (zSC (some w, some q, ρ)) L nc kd shf ss ts te dl da I0 I I'0 I' → I' 10 (6 + 7 * b + 5) = nI a → I' 10 5 = nI dy → (∀ j, zwQ j → J 18 j = zwB (I c) (I' 10) nk ns dy b a j) → J' 0 = j0 → ∃ I1 J1 I1' J1', qj_shiftByRule_2 (nI k) (some w, some q, ρ) I J = some (none, (zSC (some w, some q, ρ), I1, J1)) ∧ qm_goesOn_52 (nI tt) (nI b) (nI k) I' J' = qm_goesOn_52 (nI tt) (nI b) (nI nk) I1' J1' ∧ zJv nb nk ns nr nh c b tt q cq lq sq (zSC (some w, some q, ρ)) L nc kd shf ss ts te dl da I0 I1 I'0 I1' ∧ I1' 10 (6 + 7 * b + 5) = nI a ∧ I1' 10 5 = nI dy ∧ (∀ j, zwQ j → J1 18 j = zwB (I1 c) (I1' 10) nk ns dy b a j) ∧ J1' 0 = j0 := by
  intro m
  induction m with
  | zero =>
    intro k I J I' J' ek V ea edy hB hj0
    obtain ⟨⟨n0, n1, n2, n3, n4⟩, ⟨s0, s1, s2, s3, s4⟩, ⟨c0, c1, c2, c3, c4⟩, -⟩ := id V.1.1
    have hno : ¬ nI k < nI nk := fun h => by have := (nI_ltI (by omega) (by omega)).mp h; omega
    rw [t_qj_shiftByRule_2 _ w c q hwc, c1, if_neg hno, show k = nk by omega]
    exact ⟨I, J, I', J', rfl, rfl, V, ea, edy, hB, hj0⟩
  | succ m ih =>
    intro k I J I' J' ek V ea edy hB hj0
    obtain ⟨v1, v2, v3, v4, ⟨v5, v5'⟩, v6, v7, v8, v9, v10, d1, d2, d3, d4, d5⟩ := id V
    obtain ⟨⟨n0, n1, n2, n3, n4⟩, ⟨s0, s1, s2, s3, s4⟩, ⟨c0, c1, c2, c3, c4⟩, cD, hBg, hK, -⟩ := id v1.1
    obtain ⟨k0, rf, hq⟩ := zrs_q v4.1
    have hk : k < nk := by omega
    have hyes : nI k < nI nk := nI_lt hk (by omega)
    obtain ⟨-, -, -, k3, k4, -⟩ := hK k hk
    rw [t_qj_shiftByRule_2 _ w c q hwc, c1, if_pos hyes, p_bargeOfW hwc c1 n1 hk, zkI_s, v2, k4, t_qm_goesOn_52, s1, if_pos hyes, p_isAboard (by omega), zkI_s, nI_1]
    by_cases qa : I' 10 (20 + 7 * k + 4) = 100 + nI b
    · obtain ⟨o, oc, J1, J2, I1', J1', g1, g2, g3, g4, g5, g6, g7, g8, g9, g10, g11⟩ := p_clause hwc (κ := 2) (x2 := I' 10 (6 + 7 * b + 0)) (J := J) (J' := J') V htt hb hk ea ha hdy edy hB (by omega) (Or.inl ⟨rfl, rfl⟩)
      have ea1 : I1' 10 (6 + 7 * b + 5) = nI a := by rw [g8.1 10 (by decide)]; exact ea
      have edy1 : I1' 10 5 = nI dy := by rw [g8.1 10 (by decide)]; exact edy
      have ic : zsI I 15 5 (zkE o) c = I c := zsI_ne _ _ _ d5
      have i15 : zsI I 15 5 (zkE o) 15 4 = nI b := by rw [zsI_no _ _ _ (by decide)]; exact v2
      have hB1 : ∀ j, zwQ j → J2 18 j = zwB (zsI I 15 5 (zkE o) c) (I1' 10) nk ns dy b a j := fun j hj => by
        rw [g9 j (by unfold zwQ at hj; omega), ic, g8.1 10 (by decide)]
        exact if_pos hj
      rw [if_pos ((zbw_eq (by omega)).mpr qa), if_pos qa, if_neg z10, g1, zkV_s, i15, pc89 hwc (by omega), zkI_s, ic, (hBg b hb).1, zob_s hq, show ql_firstClause q 2 (I' 10 (6 + 7 * b + 0)) (zSC (some w, some q, ρ)) (zsI I 15 5 (zkE o)) J1 = _ from g2, zkI_s, show qm_clauseFor (nI tt) 2 (nI k) (nI b) I' J' = _ from g3, zkI_s]
      cases oc with
      | none =>
        rw [show zcA1 none = -1 from rfl, if_pos rfl, show zcB2 tt none = -1 from rfl, if_pos (show (-1 : Int32) < 0 by decide)]
        exact ih (k + 1) _ J2 I1' J1' (by omega) g7 ea1 edy1 hB1 (g11.trans hj0)
      | some c' =>
        obtain ⟨hc', hkd, hsh⟩ := g4 c' rfl
        have hsh := hsh rfl
        obtain ⟨R, hL, hnc, hcI, hsI, hvt, hlI, h5, h4, hwf, hnv⟩ := id g7.2.2.2.1
        have e1 : nI (60 * tt + 5 * c') + 1 = nI (60 * tt + 5 * c' + 1) := nI_add _ 1
        have G1 := g7.1
        have hs7 := (hwf c' hc').2.1
        have i4 : I1' 4 (60 * tt + 5 * c' + 1) = nI (shf c') := (h4 c' hc').2.2.1 hkd
        rw [show zcA1 (some c') = nI c' from rfl, if_neg (znm (by omega)), show zcB2 tt (some c') = nI (60 * tt + 5 * c') from rfl, if_neg (znn (by omega)), e1, zif_n (by omega) (by omega), ztnn (by omega), i4, zxb3, zif_n (by omega) (by omega), ztnn (by omega), zob_s hq, p_part (y := 1) (j := 1) R rfl hc' (by omega) hnc, zkI_s, (hlI c' hc').2.1, pc23 hwc (by omega), zkI_s, ic, k3, zsI_zrI I1' 10]
        have i10 : I1' 10 = I' 10 := g8.1 10 (by decide)
        by_cases qs : nI (shf c') = I' 10 (20 + 7 * k + 3)
        · rw [if_pos qs, u_id (by rw [i10, qs]), zrI_id rfl]
          exact ih (k + 1) _ J2 I1' J1' (by omega) g7 ea1 edy1 hB1 (g11.trans hj0)
        · rw [if_neg qs, zob_s hq, p_part (y := 1) (j := 1) R rfl hc' (by omega) hnc, zkI_s, (hlI c' hc').2.1, i15, p_putAboard hwc (by rw [ic]; exact c1) n1 hk, zkV_s, ic]
          have eC : upd (upd (I c) (47 + k) (100 + nI b)) (23 + k) (nI (shf c')) = upd (I c) (23 + k) (nI (shf c')) := by rw [u_id (f := I c) (a := 47 + k) (by rw [k4, qa])]
          have G2 : zGood nb nk ns nr nh (upd (I c) (23 + k) (nI (shf c'))) (upd (I1' 10) (20 + 7 * k + 3) (nI (shf c'))) := by
            rw [i10]
            exact zGood_upd v1 (Or.inr (Or.inr (Or.inl ⟨k, hk, by omega⟩))) (zBd_shelf v1.1.ns hk ⟨shf c', hs7, rfl⟩) (zAb_sh v1.2.2.1 n0 n1 hb qa hsh)
          rw [eC]
          have V2 := zJv_r g7 G2 (by rw [u_no (by omega), ic])
          have ea2 : zrI I1' 10 (upd (I1' 10) (20 + 7 * k + 3) (nI (shf c'))) 10 (6 + 7 * b + 5) = nI a := by rw [zrI_row, u_no (by omega)]; exact ea1
          have edy2 : zrI I1' 10 (upd (I1' 10) (20 + 7 * k + 3) (nI (shf c'))) 10 5 = nI dy := by rw [zrI_row, u_no (by omega)]; exact edy1
          obtain ⟨J5, b1, b2, b3, b4⟩ := p_tellBarge (q := q) hwc (ρ := ρ) (J := J2) V2.1 hb V2.2.1 ea2 ha hdy edy2
          rw [b1, zkV_s]
          exact ih (k + 1) _ J5 _ J1' (by omega) V2 ea2 edy2 b3 (g11.trans hj0)
    · rw [if_neg (fun h => qa ((zbw_eq (by omega)).mp h)), if_neg qa, if_pos rfl]
      exact ih (k + 1) I J I' J' (by omega) V ea edy hB hj0
