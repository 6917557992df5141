/-! ===== voyages: the two loops ===== -/
set_option maxHeartbeats 4000000 in
theorem p_inL {q : Nat} {ρ : (Nat → Option Nat) × (Nat → Option Nat) × List zE} {nb nk ns nr nh b tt cq lq sq n m i : Nat} {L : List Nat} {nc : Nat} {kd shf ss ts te : Nat → Nat} {dl da : Int32} {I'0 : zTI} {x4 x6 : Int32} (htt : tt < 6) (hb : b < nb) (hm : m ≤ 8) : ∀ (d j : Nat) (g : Int32) (I0 I : zTI) (J : zTJ) (I' : zTI) (J' : zTJ), j + d = m → (g = 0 ∨ g = 1) → zGood nb nk ns nr nh (I0 3) (I'0 17) → I0 17 83 = I0 3 83 → zJv nb nk ns nr nh 17 b tt q cq lq sq (zSC (some 16, some q, ρ)) L nc kd shf ss ts te dl da I0 I I'0 I' → zXs I J' → ∃ I0' I1 J1 I1' J1', qj_drawVoyages_34 (nI n) (nI m) x4 (nI i) g (nI j) (some 16, some q, ρ) I J = qj_drawVoyages_14 (nI n) (nI m) x4 (nI (i + 1)) (some 16, some q, ρ) I1 J1 ∧ qm_voyages_110 (nI tt) (nI b) (nI n) (nI m) x4 x6 (I 15 9) (nI i) g (nI j) I' J' = qm_voyages_98 (nI tt) (nI b) (nI n) (nI m) x4 x6 (I1 15 9) (nI (i + 1)) I1' J1' ∧ zJv nb nk ns nr nh 17 b tt q cq lq sq (zSC (some 16, some q, ρ)) L nc kd shf ss ts te dl da I0' (zrI I1 17 (va_cpy (I1 3) (I1 17) 0 0 251)) I'0 I1' ∧ (∀ i, i ≠ 15 → I0' i = I0 i) ∧ zXs I1 J1' := by
  have w16 : zwc 16 17 := Or.inr (Or.inl ⟨rfl, rfl⟩)
  intro d
  induction d with
  | zero =>
    intro j g I0 I J I' J' ej hg G0 h83 V hX
    have hno : ¬ nI j < nI m := fun h => by have := (nI_ltI (by omega) (by omega)).mp h; omega
    rw [t_qj_drawVoyages_34 _ _ _ _ _ _ 16 17 q w16, if_neg hno, t_qm_voyages_110, if_neg hno]
    obtain ⟨I0', I1, I1', h1, h2, h3, h4, h5⟩ := p_over (n := n) (m := m) (i := i) (x4 := x4) (x6 := x6) (J := J) hb G0 h83 V hX
    exact ⟨I0', I1, J, I1', J', h1, h2, h3, h4, h5⟩
  | succ d ih =>
    intro j g I0 I J I' J' ej hg G0 h83 V hX
    have hyes : nI j < nI m := nI_lt (by omega) (by omega)
    rw [t_qj_drawVoyages_34 _ _ _ _ _ _ 16 17 q w16, if_pos hyes, t_qm_voyages_110, if_pos hyes]
    rcases hg with rfl | rfl
    · rw [if_pos rfl, if_pos rfl]
      obtain ⟨I0', I1, I1', h1, h2, h3, h4, h5⟩ := p_over (n := n) (m := m) (i := i) (x4 := x4) (x6 := x6) (J := J) hb G0 h83 V hX
      exact ⟨I0', I1, J, I1', J', h1, h2, h3, h4, h5⟩
    · rw [if_neg z10, if_neg z10]
      obtain ⟨I0', I1, I1', J1', h1, h2, h3, h4, h5⟩ := p_day (J := J) (x4 := x4) (fun I15 J16 => (zkI (qj_goOneStop (some 16, some q, ρ) I15 J16) (zSC (some 16, some q, ρ)) (fun r19 I17 J18 => (qj_drawVoyages_34 (nI n) (nI m) x4 (nI i) r19 (nI j + 1) (some 16, some q, ρ) I17 J18)))) hb V hX
      obtain ⟨r, I2, J2, I2', J2', g1, g2, g3, g4, g5⟩ := p_goOne w16 (J := J) (J' := J1') htt hb h3
      rw [h1, h2, zkV_s, g1, zkI_s, g2, zkI_s, nI_1]
      have e9 : I 15 9 = I2 15 9 := by rw [g4.2.2.2.2.2.2.1 9 (Or.inr rfl), h4.2, V.2.2.2.2.2.2.1 9 (Or.inr rfl)]
      have hX2 : zXs I2 J2' := by
        obtain ⟨X, a1, a2, a3⟩ := h5
        exact ⟨X, a1, by rw [g4.2.2.2.2.2.2.1 6 (Or.inl rfl), ← h3.2.2.2.2.2.2.1 6 (Or.inl rfl)]; exact a2, by rw [g5]; exact a3⟩
      obtain ⟨I0x, I3, J3, I3', J3', k1, k2, k3, k4, k5⟩ := ih (j + 1) r I0' I2 J2 I2' J2' (by omega) g3 (by rw [h4.1 3 (by decide)]; exact G0) (by rw [h4.1 3 (by decide), h4.1 17 (by decide)]; exact h83) g4 hX2
      rw [e9]
      exact ⟨I0x, I3, J3, I3', J3', k1, k2, k3, fun i hi => by rw [k4 i hi, h4.1 i hi], k5⟩
theorem p_outL {q : Nat} {ρ : (Nat → Option Nat) × (Nat → Option Nat) × List zE} {nb nk ns nr nh b tt cq lq sq n m : Nat} {L : List Nat} {nc : Nat} {kd shf ss ts te : Nat → Nat} {dl da : Int32} {I'0 : zTI} {x4 x6 : Int32} (htt : tt < 6) (hb : b < nb) (hm : m ≤ 8) (hn : n ≤ 20) : ∀ (d i : Nat) (I0 I : zTI) (J : zTJ) (I' : zTI) (J' : zTJ), i + d = n → zGood nb nk ns nr nh (I0 3) (I'0 17) → I0 17 83 = I0 3 83 → zJv nb nk ns nr nh 17 b tt q cq lq sq (zSC (some 16, some q, ρ)) L nc kd shf ss ts te dl da I0 (zrI I 17 (va_cpy (I 3) (I 17) 0 0 251)) I'0 I' → zXs I J' → ∃ I0' I1 J1 I1' J1', qj_drawVoyages_14 (nI n) (nI m) x4 (nI i) (some 16, some q, ρ) I J = some (none, (zSC (some 16, some q, ρ), I1, J1)) ∧ qm_voyages_98 (nI tt) (nI b) (nI n) (nI m) x4 x6 (I 15 9) (nI i) I' J' = (if x6 = 0 then (some (some (.int (I1 15 9)), (zSM, I1', J1'))) else (if x6 = 1 then (some (some (.int (I1' 0 26)), (zSM, I1', J1'))) else (some (some (.int (I1' 0 27)), (zSM, I1', J1'))))) ∧ zJv nb nk ns nr nh 17 b tt q cq lq sq (zSC (some 16, some q, ρ)) L nc kd shf ss ts te dl da I0' (zrI I1 17 (va_cpy (I1 3) (I1 17) 0 0 251)) I'0 I1' ∧ (∀ i, i ≠ 15 → I0' i = I0 i) := by
  have w16 : zwc 16 17 := Or.inr (Or.inl ⟨rfl, rfl⟩)
  intro d
  induction d with
  | zero =>
    intro i I0 I J I' J' ei G0 h83 V hX
    have hno : ¬ nI i < nI n := fun h => by have := (nI_ltI (by omega) (by omega)).mp h; omega
    rw [t_qj_drawVoyages_14 _ _ _ _ 16 17 q w16, if_neg hno, t_qm_voyages_98, if_neg hno]
    exact ⟨I0, I, J, I', J', rfl, rfl, V, fun _ _ => rfl⟩
  | succ d ih =>
    intro i I0 I J I' J' ei G0 h83 V hX
    have hyes : nI i < nI n := nI_lt (by omega) (by omega)
    rw [t_qj_drawVoyages_14 _ _ _ _ 16 17 q w16, if_pos hyes, t_qm_voyages_98, if_pos hyes, p_copy16, zkV_s]
    have hX' : zXs (zrI I 17 (va_cpy (I 3) (I 17) 0 0 251)) J' := by
      obtain ⟨X, a1, a2, a3⟩ := hX
      exact ⟨X, a1, by rw [zrI_ne _ _ (by decide)]; exact a2, a3⟩
    obtain ⟨I0', I1, J1, I1', J1', k1, k2, k3, k4, k5⟩ := p_inL (i := i) (n := n) (x4 := x4) (x6 := x6) htt hb hm m 0 1 I0 _ J I' J' (by omega) (Or.inr rfl) G0 h83 V hX'
    rw [show qj_drawVoyages_34 (nI n) (nI m) x4 (nI i) 1 0 (some 16, some q, ρ) (zrI I 17 (va_cpy (I 3) (I 17) 0 0 251)) J = _ from k1]
    rw [zrI_ne I _ (show 15 ≠ 17 by decide)] at k2
    rw [show qm_voyages_110 (nI tt) (nI b) (nI n) (nI m) x4 x6 (I 15 9) (nI i) 1 0 I' J' = _ from k2]
    obtain ⟨I0x, I2, J2, I2', J2', h1, h2, h3, h4⟩ := ih (i + 1) I0' I1 J1 I1' J1' (by omega) (by rw [k4 3 (by decide)]; exact G0) (by rw [k4 3 (by decide), k4 17 (by decide)]; exact h83) k3 k5
    exact ⟨I0x, I2, J2, I2', J2', h1, h2, h3, fun i hi => by rw [h4 i hi, k4 i hi]⟩
