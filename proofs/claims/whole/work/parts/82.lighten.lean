/-! ===== by a rule: lending and leaving ===== -/
set_option maxHeartbeats 4000000 in
theorem p_bookL {w c q : Nat} (hwc : zwc w c) {ρ : (Nat → Option Nat) × (Nat → Option Nat) × List zE} {nb nk ns nr nh b a dy tt cq lq sq : Nat} {L : List Nat} {nc : Nat} {kd shf ss ts te : Nat → Nat} {dl da : Int32} {I0 I'0 : zTI} {j0 : Nat → Int64} {C S : Nat → Int32} (htt : tt < 6) (hb : b < nb) (ha : a < ns) (hdy : dy ≤ 9999) (ea : S (6 + 7 * b + 5) = nI a) (edy : S 5 = nI dy) : ∀ (m k : Nat) (I : zTI) (J : zTJ) (I' : zTI) (J' : zTJ) (fs : Option Nat) (ls : Int64), k + m = nk → zJv nb nk ns nr nh c b tt q cq lq sq (zSC (some w, some q, ρ)) L nc kd shf ss ts te dl da I0 I I'0 I' → I c = C → I' 10 = S → (∀ j, zwQ j → J 18 j = zwB C S nk ns dy b a j) → (∀ k', fs = some k' → k' < nk ∧ zab S b k' = true) → J' 0 = j0 → ∃ fs' I1 J1 I1' J1', qj_bookByRule_7 (zkE fs) ls (nI k) (some w, some q, ρ) I J = some (some (.int (zkE fs')), (zSC (some w, some q, ρ), I1, J1)) ∧ qm_nextFor_8 (nI tt) (nI b) (zkE fs) ls (nI k) I' J' = some (some (.int (zkE fs')), (zSM, I1', J1')) ∧ zJv nb nk ns nr nh c b tt q cq lq sq (zSC (some w, some q, ρ)) L nc kd shf ss ts te dl da I0 I1 I'0 I1' ∧ I1 c = C ∧ I1' 10 = S ∧ (∀ j, zwQ j → J1 18 j = zwB C S nk ns dy b a j) ∧ (∀ k', fs' = some k' → k' < nk ∧ zab S b k' = true) ∧ J1' 0 = j0 := by
  intro m
  induction m with
  | zero =>
    intro k I J I' J' fs ls ek V eC eS hB hf hj0
    obtain ⟨⟨n0, n1, n2, n3, n4⟩, ⟨s0, s1, s2, s3, s4⟩, ⟨c0, c1, c2, c3, c4⟩, -⟩ := id V.1.1
    have hno : ¬ nI k < nI nk := fun h => by have := (nI_ltI (by omega) (by omega)).mp h; omega
    rw [t_qj_bookByRule_7 _ _ _ w c q hwc, c1, if_neg hno, t_qm_nextFor_8, s1, if_neg hno]
    exact ⟨fs, I, J, I', J', rfl, rfl, V, eC, eS, hB, hf, hj0⟩
  | succ m ih =>
    intro k I J I' J' fs ls ek V eC eS hB hf hj0
    obtain ⟨v1, v2, v3, v4, ⟨v5, v5'⟩, v6, v7, v8, v9, v10, d1, d2, d3, d4, d5⟩ := id V
    obtain ⟨⟨n0, n1, n2, n3, n4⟩, ⟨s0, s1, s2, s3, s4⟩, ⟨c0, c1, c2, c3, c4⟩, cD, hBg, hK, -⟩ := id v1.1
    obtain ⟨k0, rf, hq⟩ := zrs_q v4.1
    have hk : k < nk := by omega
    have hyes : nI k < nI nk := nI_lt hk (by omega)
    obtain ⟨-, -, -, k3, k4, -⟩ := hK k hk
    rw [t_qj_bookByRule_7 _ _ _ w c q hwc, c1, if_pos hyes, p_bargeOfW hwc c1 n1 hk, zkI_s, v2, k4, t_qm_nextFor_8, s1, if_pos hyes, p_isAboard (by omega), zkI_s, nI_1]
    by_cases qa : I' 10 (20 + 7 * k + 4) = 100 + nI b
    · obtain ⟨o, oc, J1, J2, I1', J1', g1, g2, g3, g4, g5, g6, g7, g8, g9, g10, g11⟩ := p_clause hwc (κ := 0) (x2 := 1) (J := J) (J' := J') V htt hb hk (by rw [eS]; exact ea) ha hdy (by rw [eS]; exact edy) (by rw [eC, eS]; exact hB) (by omega) (Or.inr ⟨by omega, rfl⟩)
      have i10 : I1' 10 = S := by rw [g8.1 10 (by decide), eS]
      have ic : zsI I 15 5 (zkE o) c = C := by rw [zsI_ne _ _ _ d5, eC]
      rw [eC, eS] at g9 g10
      have hB1 : ∀ j, zwQ j → J2 18 j = zwB C S nk ns dy b a j := fun j hj => by
        rw [g9 j (by unfold zwQ at hj; omega)]
        exact if_pos hj
      have hza : zab S b k = true := by
        unfold zab
        rw [← eS]
        exact decide_eq_true qa
      rw [if_pos ((zbw_eq (by omega)).mpr qa), if_pos qa, if_neg z10, g1, zkV_s, zob_s hq, show ql_firstClause q 0 1 (zSC (some w, some q, ρ)) (zsI I 15 5 (zkE o)) J1 = _ from g2, zkI_s, show qm_clauseFor (nI tt) 0 (nI k) (nI b) I' J' = _ from g3, zkI_s]
      cases oc with
      | none =>
        rw [show zcA1 none = -1 from rfl, if_pos rfl, if_pos rfl, show zcB2 tt none = -1 from rfl, if_pos (show (-1 : Int32) < 0 by decide)]
        exact ih (k + 1) _ J2 I1' J1' fs ls (by omega) g7 ic i10 hB1 hf (g11.trans hj0)
      | some c' =>
        obtain ⟨hc', hkd, -⟩ := g4 c' rfl
        obtain ⟨R, hL, hnc, hcI, hsI, hvt, hlI, h5, h4, hwf, hnv⟩ := id g7.2.2.2.1
        have hne : sq ≠ 18 := by
          obtain ⟨_, _, _, _, _, _, _, _, _, _, _, _, _, _, hne⟩ := R
          exact hne
        obtain ⟨w1, w2', w3, w4, w5, w6, w7⟩ := hwf c' hc'
        obtain ⟨w8, w9⟩ := w7 hkd
        obtain ⟨l0, l1, l2, l3, l4⟩ := hlI c' hc'
        obtain ⟨m0, m1, m2, m3, m4⟩ := h4 c' hc'
        obtain ⟨m1a, m1b⟩ := m1 hkd
        have e1 : nI (60 * tt + 5 * c') + 1 = nI (60 * tt + 5 * c' + 1) := nI_add _ 1
        have e2 : nI (60 * tt + 5 * c') + 2 = nI (60 * tt + 5 * c' + 2) := nI_add _ 2
        obtain ⟨J3, v, u1, u2, u3, u4⟩ := p_worked (J := J2) (w := zwA C S nk ns dy b a k o) (τ := false) R hL rfl w8 (by omega) hcI hvt w9 (Nat.le_trans (znv_sg _ _ _) hnv) g9
        obtain ⟨I2', J2', v', u1', u2', u3', u4'⟩ := p_reckons (I := I1') (J := J1') (w := zwA C S nk ns dy b a k o) (τ := false) (L := L) htt hL w8 (by omega) hsI hvt w9 (Nat.le_trans (znv_sg _ _ _) hnv) g10
        have ev : v' = v := by
          rw [u2] at u2'
          exact (List.cons.inj u2').1.symm
        subst ev
        have V2 := zJv_s g7 (I1 := zsI I 15 5 (zkE o)) (I1' := I2') (fun i _ => rfl) (fun k _ => rfl) u3'
        have i10' : I2' 10 = S := by rw [u3'.1 10 (by decide), i10]
        have hB2 : ∀ j, zwQ j → J3 18 j = zwB C S nk ns dy b a j := fun j hj => by
          rw [u4 18 (fun h => hne h.symm)]
          exact hB1 j hj
        rw [show zcA1 (some c') = nI c' from rfl, if_neg (znm (by omega)), zob_s hq, t_ql_sum, zob_s hq, p_part (y := 2) (j := 2) R rfl hc' (by omega) hnc, zkI_s, zob_s hq, p_part (y := 3) (j := 3) R rfl hc' (by omega) hnc, zkI_s, l2, l3, zob_s hq, u1, zkJ_s, zkJ_s, if_neg (znm (by omega)), show zcB2 tt (some c') = nI (60 * tt + 5 * c') from rfl, if_neg (znn (by omega)), e1, e2, zif_n (by omega) (by omega), zif_n (by omega) (by omega), ztnn (by omega), ztnn (by omega), m1a, m1b, u1', zkJ_s]
        have take := ih (k + 1) _ J3 I2' J2' (some k) v' (by omega) V2 ic i10' hB2 (fun k' h => by cases h; exact ⟨hk, hza⟩) ((u4' 0 (by decide)).trans (g11.trans hj0))
        have keep := ih (k + 1) _ J3 I2' J2' fs ls (by omega) V2 ic i10' hB2 hf ((u4' 0 (by decide)).trans (g11.trans hj0))
        cases fs with
        | none =>
          rw [show zkE none = -1 from rfl, if_pos rfl, if_pos (show (-1 : Int32) < 0 by decide)]
          exact take
        | some k' =>
          have hk' := (hf k' rfl).1
          rw [show zkE (some k') = nI k' from rfl, if_neg (znm (by omega)), if_neg (znn (by omega))]
          by_cases ql : lg_cmp v' ls < 0
          · rw [if_pos ql, if_pos ql]
            exact take
          · rw [if_neg ql, if_neg ql]
            exact keep
    · rw [if_neg (fun h => qa ((zbw_eq (by omega)).mp h)), if_neg qa, if_pos rfl]
      exact ih (k + 1) I J I' J' fs ls (by omega) V eC eS hB hf hj0
/-- counted -/
theorem zJv_l {nb nk ns nr nh c b tt q cq lq sq : Nat} {sh : List zE} {L : List Nat} {nc : Nat} {kd shf ss ts te : Nat → Nat} {dl da : Int32} {I0 I I'0 I' : zTI} (V : zJv nb nk ns nr nh c b tt q cq lq sq sh L nc kd shf ss ts te dl da I0 I I'0 I') : zJv nb nk ns nr nh c b tt q cq lq sq sh L nc kd shf ss ts te dl da I0 (zsI I 15 7 (I 15 7 + 1)) I'0 (zsI I' 0 26 (I' 0 26 + 1)) ∧ zJv nb nk ns nr nh c b tt q cq lq sq sh L nc kd shf ss ts te dl da I0 (zsI I 15 8 (I 15 8 + 1)) I'0 (zsI I' 0 27 (I' 0 27 + 1)) := by
  obtain ⟨v1, v2, v3, v4, ⟨v5, v5'⟩, v6, v7, v8, v9, v10, d1, d2, d3, d4, d5⟩ := V
  have hr : ∀ (k k' : Nat) (v v' : Int32), zRl tt q cq lq sq sh (zsI I 15 k v) (zsI I' 0 k' v') L nc kd shf ss ts te := fun k k' v v' => zRl_c v4 (zsI_ne _ _ _ d2) (zsI_ne _ _ _ d4) (zsI_ne _ _ _ (by decide)) (zsI_ne _ _ _ (by decide)) (zsI_ne _ _ _ (by decide))
  constructor
  · refine ⟨?_, ?_, ?_, hr _ _ _ _, ⟨?_, ?_⟩, fun i a1 a2 => ?_, fun k hk => ?_, ?_, fun i a1 a2 => ?_, fun k a1 a2 a3 => ?_, d1, d2, d3, d4, d5⟩
    · rw [zsI_ne _ _ _ d5, zsI_ne _ _ _ (by decide)]
      exact v1
    · rw [zsI_no _ _ _ (by decide)]
      exact v2
    · rw [zsI_no _ _ _ (by decide)]
      exact v3
    · rw [zsI_at, zsI_at, ← v5]
      grind
    · rw [zsI_no _ _ _ (by decide), zsI_no _ _ _ (by decide)]
      exact v5'
    · rw [zsI_ne _ _ _ a2, v6 i a1 a2]
    · rw [zsI_no _ _ _ (by omega), v7 k hk]
    · rw [zsI_ne _ _ _ d5, v8]
    · rw [zsI_ne _ _ _ a1, v9 i a1 a2]
    · rw [zsI_no _ _ _ a2, v10 k a1 a2 a3]
  · refine ⟨?_, ?_, ?_, hr _ _ _ _, ⟨?_, ?_⟩, fun i a1 a2 => ?_, fun k hk => ?_, ?_, fun i a1 a2 => ?_, fun k a1 a2 a3 => ?_, d1, d2, d3, d4, d5⟩
    · rw [zsI_ne _ _ _ d5, zsI_ne _ _ _ (by decide)]
      exact v1
    · rw [zsI_no _ _ _ (by decide)]
      exact v2
    · rw [zsI_no _ _ _ (by decide)]
      exact v3
    · rw [zsI_no _ _ _ (by decide), zsI_no _ _ _ (by decide)]
      exact v5
    · rw [zsI_at, zsI_at, ← v5']
      grind
    · rw [zsI_ne _ _ _ a2, v6 i a1 a2]
    · rw [zsI_no _ _ _ (by omega), v7 k hk]
    · rw [zsI_ne _ _ _ d5, v8]
    · rw [zsI_ne _ _ _ a1, v9 i a1 a2]
    · rw [zsI_no _ _ _ a3, v10 k a1 a2 a3]
/-- one aboard less -/
theorem zcnt_off {S S' : Nat → Int32} {nk b k : Nat} (hk : k < nk) (h1 : zab S b k = true) (h2 : zab S' b k = false) (h3 : ∀ j, j < nk → j ≠ k → S' (20 + 7 * j + 4) = S (20 + 7 * j + 4)) : zcnt (zab S b) nk = zcnt (zab S' b) nk + 1 := by
  rw [zcnt_N, zcnt_N]
  have e : zsN (fun _ => 1) (zab S' b) nk = zsN (fun _ => 1) (fun i => if i = k then false else zab S b i) nk := zsN_congr nk (fun i hi => by
    by_cases q : i = k
    · rw [if_pos q, q, h2]
    · rw [if_neg q]
      unfold zab
      rw [h3 i hi q])
  rw [e]
  exact zsN_flip (f := fun _ => 1) (p := fun i => if i = k then false else zab S b i) (if_pos rfl) h1 (fun i hi => if_neg hi) nk hk
set_option maxHeartbeats 8000000 in
theorem p_lighten {w c q : Nat} (hwc : zwc w c) {ρ : (Nat → Option Nat) × (Nat → Option Nat) × List zE} {nb nk ns nr nh b a dy tt cq lq sq : Nat} {L : List Nat} {nc : Nat} {kd shf ss ts te : Nat → Nat} {dl da : Int32} {I0 I'0 : zTI} {j0 : Nat → Int64} (htt : tt < 6) (hb : b < nb) (ha : a + 1 < ns) (hdy : dy ≤ 9999) : ∀ (m t : Nat) (I : zTI) (J : zTJ) (I' : zTI) (J' : zTJ), zcnt (zab (I' 10) b) nk = m → t + m ≤ 12 → zJv nb nk ns nr nh c b tt q cq lq sq (zSC (some w, some q, ρ)) L nc kd shf ss ts te dl da I0 I I'0 I' → I' 10 (6 + 7 * b + 5) = nI a → I' 10 5 = nI dy → J' 0 = j0 → ∃ r I1 J1 I1' J1', qj_lightenByRule_2 (nI (a + 1)) (nI t) (some w, some q, ρ) I J = some (some (.int r), (zSC (some w, some q, ρ), I1, J1)) ∧ qm_lightens (nI tt) (nI b) (nI (a + 1)) I' J' = some (some (.int r), (zSM, I1', J1')) ∧ (r = 0 ∨ r = 1) ∧ zJv nb nk ns nr nh c b tt q cq lq sq (zSC (some w, some q, ρ)) L nc kd shf ss ts te dl da I0 I1 I'0 I1' ∧ J1' 0 = j0 := by
  intro m
  induction m using Nat.strongRecOn with
  | _ m ih =>
    intro t I J I' J' em htm V ea edy hj0
    obtain ⟨v1, v2, v3, v4, ⟨v5, v5'⟩, v6, v7, v8, v9, v10, d1, d2, d3, d4, d5⟩ := id V
    obtain ⟨⟨n0, n1, n2, n3, n4⟩, ⟨s0, s1, s2, s3, s4⟩, ⟨c0, c1, c2, c3, c4⟩, cD, hBg, hK, hT, -⟩ := id v1.1
    obtain ⟨J1, b1, b2, b3, b4⟩ := p_tellBarge (q := q) hwc (ρ := ρ) (J := J) v1 hb v2 ea (by omega) hdy edy
    have e8 : J1 18 8 = (zdrB (I' 10) nk b (zset (zab (I' 10) b) nk)).toInt64 := b3 8 (Or.inr (Or.inr (Or.inl rfl)))
    obtain ⟨n, g1, g4, en, ej⟩ := hT (a + 1) ha
    obtain ⟨g2, g3⟩ := v1.wb.1 b hb
    have ez : I' 10 (104 + 5 * (a + 1) + 1 + min (dy / 90 % 4) (n - 1)) = zde (I c) dy (a + 1) := by
      unfold zde
      rw [ej _ (by omega)]
    rw [t_qj_lightenByRule_2 _ _ w c q hwc, if_neg (show ¬ (12 : Int32) < nI t from fun h => by have := (nI_ltI (a := 12) (by decide) (by omega)).mp h; omega), b1, zkV_s, p_depW hwc v1 hdy edy ha, zkI_s, e8, t_qm_lightens, p_passesNow (s := a + 1) (d := dy) (n := n) (by omega) (by omega) edy g1 g4 en (by omega) n1 s1 (fun e => g2 (by rw [e]; decide)) (fun e => g3 (by rw [e]; decide)), zkI_s, v3, z_add0, ez]
    have hlt : (lg_cmp (zde (I c) dy (a + 1)).toInt64 (zdrB (I' 10) nk b (zset (zab (I' 10) b) nk)).toInt64 < 0) ↔ (zde (I c) dy (a + 1) < zdrB (I' 10) nk b (zset (zab (I' 10) b) nk)) := by
      rw [zcmp_lt, Int32.toInt_toInt64, Int32.toInt_toInt64]
      exact Int32.lt_iff_toInt_lt.symm
    by_cases qp : zde (I c) dy (a + 1) < zdrB (I' 10) nk b (zset (zab (I' 10) b) nk)
    · rw [if_pos (hlt.mpr qp), if_pos qp, if_pos rfl, t_qj_bookByRule w c q hwc, t_qm_nextFor]
      obtain ⟨fs, I1, J2, I1', J2', f1, f2, f3, f4, f5, f6, f7, f8⟩ := p_bookL hwc (ρ := ρ) (q := q) htt hb (show a < ns by omega) hdy ea edy nk 0 I J1 I' J' none 0 (by omega) V rfl rfl b3 (fun k' h => by cases h) hj0
      rw [show qj_bookByRule_7 (-1) 0 0 (some w, some q, ρ) I J1 = _ from f1, zkI_s, show qm_nextFor_8 (nI tt) (nI b) (-1) 0 0 I' J' = _ from f2, zkI_s]
      cases fs with
      | none =>
        rw [show zkE none = -1 from rfl, if_pos rfl, if_pos (show (-1 : Int32) < 0 by decide)]
        exact ⟨0, I1, J2, I1', J2', rfl, rfl, Or.inl rfl, f3, f8⟩
      | some k =>
        obtain ⟨hk, hza⟩ := f7 k rfl
        obtain ⟨x1, x2, x3, x4, -⟩ := id f3
        have ea1 : I1' 10 (6 + 7 * b + 5) = nI a := by rw [f5]; exact ea
        have edy1 : I1' 10 5 = nI dy := by rw [f5]; exact edy
        have qa : I1' 10 (20 + 7 * k + 4) = 100 + nI b := by
          rw [f5]
          exact of_decide_eq_true hza
        obtain ⟨o, J3, h1, h2, h3, -, -, -⟩ := p_tellBook (q := q) hwc (ρ := ρ) (J := J2) (J' := J2') x1 hb hk x2 ea1
        have V1 := zJv_s f3 (I1 := zsI I1 15 5 (zkE o)) (I1' := I1') (fun i hi => zsI_ne _ _ _ hi) (fun k hk => zsI_no _ _ _ hk) zKr.rf
        obtain ⟨y1, y2, -⟩ := id V1
        obtain ⟨⟨-, -, -, -, -⟩, ⟨-, -, -, -, -⟩, ⟨p0, p1, p2, p3, p4⟩, -, pB, -⟩ := id y1.1
        rw [show zkE (some k) = nI k from rfl, if_neg (znm (by omega)), if_neg (znn (by omega)), h1, zkV_s, zsI_at, y2, pst (by omega), zkI_s, ea1, h2, zkI_s, show nI t + 1 = nI (t + 1) from nI_add t 1]
        cases o with
        | none =>
          rw [show zkE none = -1 from rfl, if_pos rfl, if_pos (show (-1 : Int32) < 0 by decide), p_ashore hwc (I := zsI I1 15 5 (-1)) (nk := nk) p1 n1 hk (by omega), zkV_s, pst (by omega), zkI_s, ea1, p_stands (by omega), zkV_s]
          have e5 : zsI I1 15 5 (-1) c (1 + b) = nI a := (pB b hb).2.2.2.2.2.1.trans ea1
          rw [e5]
          have G2 : zGood nb nk ns nr nh (upd (zsI I1 15 5 (-1) c) (47 + k) (nI a)) (upd (I1' 10) (20 + 7 * k + 4) (nI a)) := by
            refine zGood_upd y1 (Or.inr (Or.inr (Or.inl ⟨k, hk, by omega⟩))) (zBd_where y1.1.ns hk (Or.inl ⟨a, by omega, rfl⟩)) (zAb_off y1.2.2.1 n0 n1 fun b' hb' e => ?_)
            rw [zy_100] at e
            have := znI (by omega) (by omega) e
            omega
          have V2 := (zJv_l (zJv_r V1 G2 (u_no (by omega)))).2
          have hc : zcnt (zab (I1' 10) b) nk = zcnt (zab (upd (I1' 10) (20 + 7 * k + 4) (nI a)) b) nk + 1 := zcnt_off hk (by unfold zab; exact decide_eq_true qa) (by
            unfold zab
            rw [u_at]
            refine decide_eq_false (fun e => ?_)
            rw [zy_100] at e
            have := znI (by omega) (by omega) e
            omega) (fun j _ hj => u_no (by omega))
          rw [f5, em] at hc
          exact ih (m - 1) (by omega) (t + 1) _ J3 _ J2' (by rw [zsI_ne _ _ _ (by decide), zrI_row]; rw [f5]; omega) (by omega) V2 (by rw [zsI_ne _ _ _ (by decide), zrI_row, u_no (by omega)]; exact ea1) (by rw [zsI_ne _ _ _ (by decide), zrI_row, u_no (by omega)]; exact edy1) f8
        | some r =>
          have hr := h3 r rfl
          rw [show zkE (some r) = nI r from rfl, if_neg (znm (by omega)), if_neg (znn (by omega)), p_giveTo hwc (I := zsI I1 15 5 (nI r)) (nb := nb) (nk := nk) (nr := nr) p0 n0 hb p1 n1 hk p3 n3 hr, zkV_s, p_lends (b := b) (by omega) (by omega) (by omega) qa, zkV_s]
          have G2 := zG_lend (b := b) (k := k) (r := r) y1 hb hk hr
          have V2 := (zJv_l (zJv_r V1 G2 (by unfold zlnC; rw [u_no (by omega), u_no (by omega), u_no (by omega), u_no (by omega), u_no (by omega), u_no (by omega)]))).1
          have sv : ∀ j, j < 12 → zlnS (I1' 10) b k r j = I1' 10 j := fun j hj => by
            unfold zlnS
            rw [u_no (by omega), u_no (by omega), u_no (by omega), u_no (by omega), u_no (by omega), u_no (by omega)]
          have sa : zlnS (I1' 10) b k r (6 + 7 * b + 5) = I1' 10 (6 + 7 * b + 5) := by
            unfold zlnS
            rw [u_no (by omega), u_no (by omega), u_no (by omega), u_no (by omega), u_no (by omega), u_no (by omega)]
          have hc : zcnt (zab (I1' 10) b) nk = zcnt (zab (zlnS (I1' 10) b k r) b) nk + 1 := zcnt_off hk (by unfold zab; exact decide_eq_true qa) (by
            unfold zab zlnS
            rw [u_no (by omega), u_no (by omega), u_no (by omega), u_no (by omega), u_at]
            refine decide_eq_false (fun e => ?_)
            rw [zy_100] at e
            have := znI (by omega) (by omega) e
            omega) (fun j hjn hj => by
            unfold zlnS
            rw [u_no (by omega), u_no (by omega), u_no (by omega), u_no (by omega), u_no (by omega), u_no (by omega)])
          rw [f5, em] at hc
          exact ih (m - 1) (by omega) (t + 1) _ J3 _ J2' (by rw [zsI_ne _ _ _ (by decide), zrI_row]; rw [f5]; omega) (by omega) V2 (by rw [zsI_ne _ _ _ (by decide), zrI_row, sa]; exact ea1) (by rw [zsI_ne _ _ _ (by decide), zrI_row, sv 5 (by omega)]; exact edy1) f8
    · rw [if_neg (fun h => qp (hlt.mp h)), if_neg qp, if_neg z10]
      exact ⟨1, I, J1, I', J', rfl, rfl, Or.inr rfl, V, hj0⟩
