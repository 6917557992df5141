/-! ===== a rule at work: what holds all the way ===== -/
def zwA (C S : Nat → Int32) (nk ns dy b a k : Nat) (o : Option Nat) (j : Nat) : Int64 := if j = 6 ∨ j = 7 ∨ j = 8 ∨ j = 9 ∨ j = 11 then zwB C S nk ns dy b a j else zwK S k o j
theorem zwA_0 {C S : Nat → Int32} {nk ns dy b a k : Nat} {o : Option Nat} : zwA C S nk ns dy b a k o 0 = (nI k).toInt64 := by
  unfold zwA zwK; rw [if_neg (by decide), if_pos rfl]
theorem zwA_1 {C S : Nat → Int32} {nk ns dy b a k : Nat} {o : Option Nat} : zwA C S nk ns dy b a k o 1 = (zhv S k).toInt64 := by
  unfold zwA zwK; rw [if_neg (by decide), if_neg (by decide), if_pos rfl]
theorem zwA_2 {C S : Nat → Int32} {nk ns dy b a k : Nat} {o : Option Nat} : zwA C S nk ns dy b a k o 2 = (S (20 + 7 * k + 3)).toInt64 := by
  unfold zwA zwK; rw [if_neg (by decide), if_neg (by decide), if_neg (by decide), if_pos rfl]
theorem zwA_3 {C S : Nat → Int32} {nk ns dy b a k : Nat} {o : Option Nat} : zwA C S nk ns dy b a k o 3 = (S (20 + 7 * k + 1)).toInt64 := by
  unfold zwA zwK; rw [if_neg (by decide), if_neg (by decide), if_neg (by decide), if_neg (by decide), if_pos rfl]
theorem zwA_4 {C S : Nat → Int32} {nk ns dy b a k : Nat} {o : Option Nat} : zwA C S nk ns dy b a k o 4 = (S (20 + 7 * k + 2)).toInt64 := by
  unfold zwA zwK; rw [if_neg (by decide), if_neg (by decide), if_neg (by decide), if_neg (by decide), if_neg (by decide), if_pos rfl]
theorem zwA_5 {C S : Nat → Int32} {nk ns dy b a k : Nat} {o : Option Nat} : zwA C S nk ns dy b a k o 5 = (zkM S k o).toInt64 := by
  unfold zwA zwK; rw [if_neg (by decide), if_neg (by decide), if_neg (by decide), if_neg (by decide), if_neg (by decide), if_neg (by decide), if_pos rfl]
theorem zwA_6 {C S : Nat → Int32} {nk ns dy b a k : Nat} {o : Option Nat} : zwA C S nk ns dy b a k o 6 = (nI a).toInt64 := by
  unfold zwA zwB; rw [if_pos (by decide), if_pos rfl]
theorem zwA_7 {C S : Nat → Int32} {nk ns dy b a k : Nat} {o : Option Nat} : zwA C S nk ns dy b a k o 7 = zwB C S nk ns dy b a 7 := by
  unfold zwA; rw [if_pos (by decide)]
theorem zwA_8 {C S : Nat → Int32} {nk ns dy b a k : Nat} {o : Option Nat} : zwA C S nk ns dy b a k o 8 = (zdrB S nk b (zset (zab S b) nk)).toInt64 := by
  unfold zwA zwB; rw [if_pos (by decide), if_neg (by decide), if_neg (by decide), if_pos rfl]
theorem zwA_9 {C S : Nat → Int32} {nk ns dy b a k : Nat} {o : Option Nat} : zwA C S nk ns dy b a k o 9 = (S (6 + 7 * b + 4)).toInt64 := by
  unfold zwA zwB; rw [if_pos (by decide), if_neg (by decide), if_neg (by decide), if_neg (by decide), if_pos rfl]
theorem zwA_10 {C S : Nat → Int32} {nk ns dy b a k : Nat} {o : Option Nat} : zwA C S nk ns dy b a k o 10 = (S (20 + 7 * k + 5)).toInt64 := by
  unfold zwA zwK; rw [if_neg (by decide), if_neg (by decide), if_neg (by decide), if_neg (by decide), if_neg (by decide), if_neg (by decide), if_neg (by decide)]
theorem zwA_11 {C S : Nat → Int32} {nk ns dy b a k : Nat} {o : Option Nat} : zwA C S nk ns dy b a k o 11 = (S 5).toInt64 := by
  unfold zwA zwB; rw [if_pos (by decide), if_neg (by decide), if_neg (by decide), if_neg (by decide), if_neg (by decide)]
set_option maxHeartbeats 4000000 in
theorem p_words {nb nk ns nr nh b a dy k : Nat} {I : zTI} {J : zTJ} {C : Nat → Int32} {o : Option Nat} (G : zGood nb nk ns nr nh C (I 10)) (hb : b < nb) (hk : k < nk) (ea : I 10 (6 + 7 * b + 5) = nI a) (ha : a < ns) (hdy : dy ≤ 9999) (edy : I 10 5 = nI dy) (hin : I 0 23 = 0) (ho : ∀ J', qm_bestReader (nI k) (nI a) I J' = some (some (.int (zkE o)), (zSM, I, J'))) (ho2 : ∀ r', o = some r' → r' < nr) : ∃ J1, qm_words (nI k) (nI b) I J = some (none, (zSM, I, J1)) ∧ (∀ r, r ≠ 9 → J1 r = J r) ∧ (∀ j, j < 12 → J1 9 j = zwA C (I 10) nk ns dy b a k o j) := by
  obtain ⟨⟨n0, n1, n2, n3, n4⟩, ⟨s0, s1, s2, s3, s4⟩, -⟩ := id G.1
  rw [t_qm_words, pst (by omega), zkI_s, ea, ho, zkI_s, p_heavy (by omega), zkI_s, pb3 (by omega), zkI_s, pb1 (by omega), zkI_s, pb2 (by omega), zkI_s]
  have fin : ∀ (J2 : zTJ) (v7 : Int64), v7 = zwB C (I 10) nk ns dy b a 7 → (∀ r, r ≠ 9 → J2 r = J r) → (∀ j, j ≤ 6 → J2 9 j = zwA C (I 10) nk ns dy b a k o j) → ∃ J1, (zkI (qm_draughtNow (nI b) I (zsJ J2 9 7 v7)) zSM (fun r24 I22 J23 => (zkI (qm_bargeOf (nI b) 4 I22 (zsJ J23 9 8 r24.toInt64)) zSM (fun r27 I25 J26 => (zkI (qm_bookOf (nI k) 5 I25 (zsJ J26 9 9 r27.toInt64)) zSM (fun r30 I28 J29 => (some (none, (zSM, I28, (zsJ (zsJ J29 9 10 r30.toInt64) 9 11 ((I28 10 5).toInt64))))))))))) = some (none, (zSM, I, J1)) ∧ (∀ r, r ≠ 9 → J1 r = J r) ∧ (∀ j, j < 12 → J1 9 j = zwA C (I 10) nk ns dy b a k o j) := by
    intro J2 v7 h7 hJ h6
    rw [p_draughtM G hb, zkI_s, pg4 (by omega), zkI_s, pb5 (by omega), zkI_s]
    refine ⟨_, rfl, fun r hr => ?_, fun j hj => ?_⟩
    · rw [zsJ_ne _ _ _ hr, zsJ_ne _ _ _ hr, zsJ_ne _ _ _ hr, zsJ_ne _ _ _ hr, zsJ_ne _ _ _ hr, hJ r hr]
    · rcases (show j ≤ 6 ∨ j = 7 ∨ j = 8 ∨ j = 9 ∨ j = 10 ∨ j = 11 by omega) with h | rfl | rfl | rfl | rfl | rfl
      · rw [zsJ_no _ _ _ (by omega), zsJ_no _ _ _ (by omega), zsJ_no _ _ _ (by omega), zsJ_no _ _ _ (by omega), zsJ_no _ _ _ (by omega)]
        exact h6 j h
      · rw [zsJ_no _ _ _ (by decide), zsJ_no _ _ _ (by decide), zsJ_no _ _ _ (by decide), zsJ_no _ _ _ (by decide), zsJ_at, h7, zwA_7]
      · rw [zsJ_no _ _ _ (by decide), zsJ_no _ _ _ (by decide), zsJ_no _ _ _ (by decide), zsJ_at, zwA_8]
      · rw [zsJ_no _ _ _ (by decide), zsJ_no _ _ _ (by decide), zsJ_at, zwA_9]
      · rw [zsJ_no _ _ _ (by decide), zsJ_at, zwA_10]
      · rw [zsJ_at, zwA_11]
  generalize hJ4 : zsJ (zsJ (zsJ (zsJ (zsJ J 9 0 (nI k).toInt64) 9 1 (zhv (I 10) k).toInt64) 9 2 (I 10 (20 + 7 * k + 3)).toInt64) 9 3 (I 10 (20 + 7 * k + 1)).toInt64) 9 4 (I 10 (20 + 7 * k + 2)).toInt64 = J4
  have pre : ∀ v5 : Int64, v5 = (zkM (I 10) k o).toInt64 → (∀ r, r ≠ 9 → (zsJ (zsJ J4 9 5 v5) 9 6 (nI a).toInt64) r = J r) ∧ (∀ j, j ≤ 6 → (zsJ (zsJ J4 9 5 v5) 9 6 (nI a).toInt64) 9 j = zwA C (I 10) nk ns dy b a k o j) := by
    intro v5 h5
    refine ⟨fun r hr => ?_, fun j hj => ?_⟩
    · rw [zsJ_ne _ _ _ hr, zsJ_ne _ _ _ hr, ← hJ4, zsJ_ne _ _ _ hr, zsJ_ne _ _ _ hr, zsJ_ne _ _ _ hr, zsJ_ne _ _ _ hr, zsJ_ne _ _ _ hr]
    · rcases (show j = 0 ∨ j = 1 ∨ j = 2 ∨ j = 3 ∨ j = 4 ∨ j = 5 ∨ j = 6 by omega) with rfl | rfl | rfl | rfl | rfl | rfl | rfl
      · rw [zsJ_no _ _ _ (by decide), zsJ_no _ _ _ (by decide), ← hJ4, zsJ_no _ _ _ (by decide), zsJ_no _ _ _ (by decide), zsJ_no _ _ _ (by decide), zsJ_no _ _ _ (by decide), zsJ_at, zwA_0]
      · rw [zsJ_no _ _ _ (by decide), zsJ_no _ _ _ (by decide), ← hJ4, zsJ_no _ _ _ (by decide), zsJ_no _ _ _ (by decide), zsJ_no _ _ _ (by decide), zsJ_at, zwA_1]
      · rw [zsJ_no _ _ _ (by decide), zsJ_no _ _ _ (by decide), ← hJ4, zsJ_no _ _ _ (by decide), zsJ_no _ _ _ (by decide), zsJ_at, zwA_2]
      · rw [zsJ_no _ _ _ (by decide), zsJ_no _ _ _ (by decide), ← hJ4, zsJ_no _ _ _ (by decide), zsJ_at, zwA_3]
      · rw [zsJ_no _ _ _ (by decide), zsJ_no _ _ _ (by decide), ← hJ4, zsJ_at, zwA_4]
      · rw [zsJ_no _ _ _ (by decide), zsJ_at, h5, zwA_5]
      · rw [zsJ_at, zwA_6]
  have last : ∀ v5 : Int64, v5 = (zkM (I 10) k o).toInt64 → ∃ J1, (zkI (qm_isStop (nI a + 1) I (zsJ (zsJ J4 9 5 v5) 9 6 (nI a).toInt64)) zSM (fun r21 I19 J20 => (if r21 = 0 then (zkI (qm_draughtNow (nI b) I19 (zsJ J20 9 7 0)) zSM (fun r24 I22 J23 => (zkI (qm_bargeOf (nI b) 4 I22 (zsJ J23 9 8 r24.toInt64)) zSM (fun r27 I25 J26 => (zkI (qm_bookOf (nI k) 5 I25 (zsJ J26 9 9 r27.toInt64)) zSM (fun r30 I28 J29 => (some (none, (zSM, I28, (zsJ (zsJ J29 9 10 r30.toInt64) 9 11 ((I28 10 5).toInt64))))))))))) else (zkI (qm_depthOf (nI a + 1) I19 J20) zSM (fun r33 I31 J32 => (zkI (qm_draughtNow (nI b) I31 (zsJ J32 9 7 r33.toInt64)) zSM (fun r36 I34 J35 => (zkI (qm_bargeOf (nI b) 4 I34 (zsJ J35 9 8 r36.toInt64)) zSM (fun r39 I37 J38 => (zkI (qm_bookOf (nI k) 5 I37 (zsJ J38 9 9 r39.toInt64)) zSM (fun r42 I40 J41 => (some (none, (zSM, I40, (zsJ (zsJ J41 9 10 r42.toInt64) 9 11 ((I40 10 5).toInt64)))))))))))))))) = some (none, (zSM, I, J1)) ∧ (∀ r, r ≠ 9 → J1 r = J r) ∧ (∀ j, j < 12 → J1 9 j = zwA C (I 10) nk ns dy b a k o j) := by
    intro v5 h5
    obtain ⟨p1, p2⟩ := pre v5 h5
    rw [nI_1]
    by_cases h : a + 1 < ns
    · rw [q1Stop s2 n2 h, zkI_s, if_neg z10, p_depM G hdy edy h, zkI_s, hin, z_add0]
      exact fin _ _ (by unfold zwB; rw [if_neg (by decide), if_pos rfl, if_pos h]) p1 p2
    · rw [q0Stop s2 (Or.inr ⟨znn (by omega), fun h' => h ((nI_ltI (by omega) (by omega)).mp h')⟩), zkI_s, if_pos rfl]
      exact fin _ 0 (by unfold zwB; rw [if_neg (by decide), if_pos rfl, if_neg h]; rfl) p1 p2
  cases o with
  | none =>
    rw [show zkE none = -1 from rfl, if_pos (show (-1 : Int32) < 0 by decide)]
    exact last 0 rfl
  | some r =>
    have hr := ho2 r rfl
    rw [show zkE (some r) = nI r from rfl, if_neg (znn (by omega)), pw_ (by omega) (by omega), zkI_s]
    exact last _ rfl
/-- what holds while a barge goes by a rule -/
def zJv (nb nk ns nr nh c b tt q cq lq sq : Nat) (sh : List zE) (L : List Nat) (nc : Nat) (kd shf ss ts te : Nat → Nat) (dl da : Int32) (I0 I I'0 I' : zTI) : Prop :=
  zGood nb nk ns nr nh (I c) (I' 10) ∧ I 15 4 = nI b ∧ I' 0 23 = 0 ∧ zRl tt q cq lq sq sh I I' L nc kd shf ss ts te ∧ (I 15 7 + dl = I' 0 26 ∧ I 15 8 + da = I' 0 27) ∧ (∀ i, i ≠ c → i ≠ 15 → I i = I0 i) ∧ (∀ k, k = 6 ∨ k = 9 → I 15 k = I0 15 k) ∧ I c 83 = I0 c 83 ∧ (∀ i, i ≠ 0 → i ≠ 10 → I' i = I'0 i) ∧ (∀ k, k ≠ 19 → k ≠ 26 → k ≠ 27 → I' 0 k = I'0 0 k) ∧ (cq ≠ c ∧ cq ≠ 15 ∧ lq ≠ c ∧ lq ≠ 15 ∧ c ≠ 15)
theorem zRl_c {tt q cq lq sq : Nat} {sh : List zE} {I I1 I' I1' : zTI} {L : List Nat} {nc : Nat} {kd shf ss ts te : Nat → Nat} (R : zRl tt q cq lq sq sh I I' L nc kd shf ss ts te) (h1 : I1 cq = I cq) (h2 : I1 lq = I lq) (h3 : I1' 2 = I' 2) (h4 : I1' 4 = I' 4) (h5 : I1' 5 = I' 5) : zRl tt q cq lq sq sh I1 I1' L nc kd shf ss ts te := by
  unfold zRl
  rw [h1, h2, h3, h4, h5]
  exact R
/-- the river has changed -/
theorem zJv_r {nb nk ns nr nh c b tt q cq lq sq : Nat} {sh : List zE} {L : List Nat} {nc : Nat} {kd shf ss ts te : Nat → Nat} {dl da : Int32} {I0 I I'0 I' : zTI} (V : zJv nb nk ns nr nh c b tt q cq lq sq sh L nc kd shf ss ts te dl da I0 I I'0 I') {C' S' : Nat → Int32} (G : zGood nb nk ns nr nh C' S') (h83 : C' 83 = I c 83) : zJv nb nk ns nr nh c b tt q cq lq sq sh L nc kd shf ss ts te dl da I0 (zrI I c C') I'0 (zrI I' 10 S') := by
  obtain ⟨v1, v2, v3, v4, ⟨v5, v5'⟩, v6, v7, v8, v9, v10, d1, d2, d3, d4, d5⟩ := V
  refine ⟨?_, ?_, ?_, ?_, ⟨?_, ?_⟩, fun i a1 a2 => ?_, fun k hk => ?_, ?_, fun i a1 a2 => ?_, fun k a1 a2 a3 => ?_, d1, d2, d3, d4, d5⟩
  · rw [zrI_row, zrI_row]
    exact G
  · rw [zrI_ne _ _ (fun h => d5 h.symm)]
    exact v2
  · rw [zrI_ne _ _ (by decide)]
    exact v3
  · exact zRl_c v4 (zrI_ne _ _ d1) (zrI_ne _ _ d3) (zrI_ne _ _ (by decide)) (zrI_ne _ _ (by decide)) (zrI_ne _ _ (by decide))
  · rw [zrI_ne _ _ (fun h => d5 h.symm), zrI_ne _ _ (by decide)]
    exact v5
  · rw [zrI_ne _ _ (fun h => d5 h.symm), zrI_ne _ _ (by decide)]
    exact v5'
  · rw [zrI_ne _ _ a1, v6 i a1 a2]
  · rw [zrI_ne _ _ (fun h => d5 h.symm), v7 k hk]
  · rw [zrI_row, h83, v8]
  · rw [zrI_ne _ _ a2, v9 i a1 a2]
  · rw [zrI_ne _ _ (by decide), v10 k a1 a2 a3]
/-- only what is used anew has changed -/
theorem zJv_s {nb nk ns nr nh c b tt q cq lq sq : Nat} {sh : List zE} {L : List Nat} {nc : Nat} {kd shf ss ts te : Nat → Nat} {dl da : Int32} {I0 I I1 I'0 I' I1' : zTI} (V : zJv nb nk ns nr nh c b tt q cq lq sq sh L nc kd shf ss ts te dl da I0 I I'0 I') (h : ∀ i, i ≠ 15 → I1 i = I i) (h15 : ∀ k, k ≠ 5 → I1 15 k = I 15 k) (K : zKr I' I1') : zJv nb nk ns nr nh c b tt q cq lq sq sh L nc kd shf ss ts te dl da I0 I1 I'0 I1' := by
  obtain ⟨v1, v2, v3, v4, ⟨v5, v5'⟩, v6, v7, v8, v9, v10, d1, d2, d3, d4, d5⟩ := V
  refine ⟨?_, ?_, ?_, ?_, ⟨?_, ?_⟩, fun i a1 a2 => ?_, fun k hk => ?_, ?_, fun i a1 a2 => ?_, fun k a1 a2 a3 => ?_, d1, d2, d3, d4, d5⟩
  · rw [h c d5, K.1 10 (by decide)]
    exact v1
  · rw [h15 4 (by decide)]
    exact v2
  · rw [K.2 23 (by decide)]
    exact v3
  · exact zRl_c v4 (h cq d2) (h lq d4) (K.1 2 (by decide)) (K.1 4 (by decide)) (K.1 5 (by decide))
  · rw [h15 7 (by decide), K.2 26 (by decide)]
    exact v5
  · rw [h15 8 (by decide), K.2 27 (by decide)]
    exact v5'
  · rw [h i a2, v6 i a1 a2]
  · rw [h15 k (by omega), v7 k hk]
  · rw [h c d5, v8]
  · rw [K.1 i a1, v9 i a1 a2]
  · rw [K.2 k a1, v10 k a1 a2 a3]
set_option maxHeartbeats 4000000 in
/-- the clause for a book -/
theorem p_clause {w c q : Nat} (hwc : zwc w c) {ρ : (Nat → Option Nat) × (Nat → Option Nat) × List zE} {nb nk ns nr nh b k a dy tt cq lq sq κ : Nat} {L : List Nat} {nc : Nat} {kd shf ss ts te : Nat → Nat} {dl da : Int32} {I0 I I'0 I' : zTI} {J J' : zTJ} {x2 : Int32} (V : zJv nb nk ns nr nh c b tt q cq lq sq (zSC (some w, some q, ρ)) L nc kd shf ss ts te dl da I0 I I'0 I') (htt : tt < 6) (hb : b < nb) (hk : k < nk) (ea : I' 10 (6 + 7 * b + 5) = nI a) (ha : a < ns) (hdy : dy ≤ 9999) (edy : I' 10 5 = nI dy) (hB : ∀ j, zwQ j → J 18 j = zwB (I c) (I' 10) nk ns dy b a j) (hκ : κ ≤ 2) (hx : (κ = 2 ∧ x2 = I' 10 (6 + 7 * b + 0)) ∨ (κ ≠ 2 ∧ x2 = 1)) : ∃ o oc J1 J2 I1' J1', qj_tellBook (nI k) (some w, some q, ρ) I J = some (none, (zSC (some w, some q, ρ), zsI I 15 5 (zkE o), J1)) ∧ ql_firstClause q (nI κ) x2 (zSC (some w, some q, ρ)) (zsI I 15 5 (zkE o)) J1 = some (some (.int (zcA1 oc)), (zSC (some w, some q, ρ), zsI I 15 5 (zkE o), J2)) ∧ qm_clauseFor (nI tt) (nI κ) (nI k) (nI b) I' J' = some (some (.int (zcB2 tt oc)), (zSM, I1', J1')) ∧ (∀ c', oc = some c' → c' < nc ∧ kd c' = κ ∧ (κ = 2 → nI (shf c') < I' 10 (6 + 7 * b + 0))) ∧ (∀ J', qm_bestReader (nI k) (nI a) I' J' = some (some (.int (zkE o)), (zSM, I', J'))) ∧ (∀ r', o = some r' → r' < nr) ∧ zJv nb nk ns nr nh c b tt q cq lq sq (zSC (some w, some q, ρ)) L nc kd shf ss ts te dl da I0 (zsI I 15 5 (zkE o)) I'0 I1' ∧ zKr I' I1' ∧ (∀ j, j < 12 → J2 18 j = zwA (I c) (I' 10) nk ns dy b a k o j) ∧ (∀ j, j < 12 → J1' 9 j = zwA (I c) (I' 10) nk ns dy b a k o j) ∧ J1' 0 = J' 0 := by
  obtain ⟨v1, v2, v3, v4, ⟨v5, v5'⟩, v6, v7, v8, v9, v10, d1, d2, d3, d4, d5⟩ := id V
  obtain ⟨o, J1, f1, f2, f3, f4, f5, f6⟩ := p_tellBook (q := q) hwc (ρ := ρ) (J := J) (J' := J') v1 hb hk v2 ea
  obtain ⟨J3, g1, g2, g3⟩ := p_words (J := J') (o := o) v1 hb hk ea ha hdy edy v3 f2 f3
  have w1 : ∀ j, j < 12 → J1 18 j = zwA (I c) (I' 10) nk ns dy b a k o j := fun j hj => by
    unfold zwA
    by_cases h : j = 6 ∨ j = 7 ∨ j = 8 ∨ j = 9 ∨ j = 11
    · rw [if_pos h, f6 j h, hB j h]
    · rw [if_neg h, f5 j hj h]
  have V1 := zJv_s V (I1 := zsI I 15 5 (zkE o)) (I1' := I') (fun i hi => zsI_ne _ _ _ hi) (fun k hk => zsI_no _ _ _ hk) zKr.rf
  obtain ⟨oc, J2, I1', J1', h1, h2, h3, h4, h5, h6⟩ := p_first (w := zwA (I c) (I' 10) nk ns dy b a k o) htt V1.2.2.2.1 V1.1 hb hκ hx nc 0 J1 I' J3 (by omega) zKr.rf w1 g3
  refine ⟨o, oc, J1, J2, I1', J1', f1, ?_, ?_, h3, f2, f3, ?_, h5, ?_, ?_, ?_⟩
  · rw [t_ql_firstClause]
    exact h1
  · rw [t_qm_clauseFor, g1, zkV_s]
    exact h2
  · exact zJv_s V (fun i hi => zsI_ne _ _ _ hi) (fun k hk => zsI_no _ _ _ hk) h5
  · intro j hj
    rw [h4 18 (fun h => v4.1.choose_spec.choose_spec.choose_spec.choose_spec.choose_spec.choose_spec.2.2.2.2.2.2.2.2 h.symm)]
    exact w1 j hj
  · intro j hj
    rw [h6 9 (by decide)]
    exact g3 j hj
  · rw [h6 0 (by decide)]
    exact g2 0 (by decide)
