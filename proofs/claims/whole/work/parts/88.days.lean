/-! ===== voyages ===== -/
def zXs (I : zTI) (J' : zTJ) : Prop := ∃ X, X < 2147483648 ∧ I 15 6 = nI X ∧ J' 0 35 = zn6 X
set_option maxHeartbeats 4000000 in
theorem p_day {q : Nat} {ρ : (Nat → Option Nat) × (Nat → Option Nat) × List zE} {nb nk ns nr nh b tt cq lq sq : Nat} {L : List Nat} {nc : Nat} {kd shf ss ts te : Nat → Nat} {dl da : Int32} {I0 I I'0 I' : zTI} {J J' : zTJ} {x4 : Int32} (K : zTI → zTJ → Option zR) (hb : b < nb) (V : zJv nb nk ns nr nh 17 b tt q cq lq sq (zSC (some 16, some q, ρ)) L nc kd shf ss ts te dl da I0 I I'0 I') (hX : zXs I J') : ∃ I0' I1 I1' J1', (zkV (qw_passNight 16 (some 16, some q, ρ) I J) (zSC (some 16, some q, ρ)) (fun I7 J8 => (zkI (qj_draw (some 16, some q, ρ) I7 J8) (zSC (some 16, some q, ρ)) (fun r11 I9 J10 => (if r11 - r11 / 100 * 100 < x4 then (zkI (qw_wetAboard 16 (some 16, some q, ρ) I9 J10) (zSC (some 16, some q, ρ)) (fun r14 I12 J13 => (zkV (qj_gnaw (some 16, some q, ρ) I12 J13) (zSC (some 16, some q, ρ)) K))) else (zkV (qj_gnaw (some 16, some q, ρ) I9 J10) (zSC (some 16, some q, ρ)) K)))))) = K I1 J ∧ qm_weathers (nI b) x4 I' J' = some (none, (zSM, I1', J1')) ∧ zJv nb nk ns nr nh 17 b tt q cq lq sq (zSC (some 16, some q, ρ)) L nc kd shf ss ts te dl da I0' I1 I'0 I1' ∧ ((∀ i, i ≠ 15 → I0' i = I0 i) ∧ I0' 15 9 = I0 15 9) ∧ zXs I1 J1' := by
  have w16 : zwc 16 17 := Or.inr (Or.inl ⟨rfl, rfl⟩)
  obtain ⟨X, hX, e6, e35⟩ := hX
  obtain ⟨C', S', f1, f2, f3, f4⟩ := p_nightG w16 (σ := (some 16, some q, ρ)) (J := J) (J' := J') V.1
  have V1 := zJv_r V f3 (f4 83 (by omega))
  have e6' : zrI I 17 C' 15 6 = nI X := by rw [zrI_ne _ _ (by decide)]; exact e6
  have V2 := zJv_x V1 6 (Or.inl rfl) (nI (zlot X))
  have hl := zlot_lt X
  have hm : nI (zlot X / 65536) - nI (zlot X / 65536) / 100 * 100 = nI (zlot X / 65536 % 100) := zI_modn (b := 100) (by omega) (by omega)
  have hd : qm_draw 100 (zrI I' 10 S') J' = _ := p_drawM (n := 100) hX e35 (by omega) (by omega)
  have ey : zsJ J' 0 35 (zn6 (zlot X)) 0 35 = zn6 (zlot X) := zsJ_at _ _ _ _
  have fr : (∀ i, i ≠ 15 → zsI I0 15 6 (nI (zlot X)) i = I0 i) ∧ zsI I0 15 6 (nI (zlot X)) 15 9 = I0 15 9 := ⟨fun i hi => zsI_ne _ _ _ hi, zsI_no _ _ _ (by decide)⟩
  rw [f1, zkV_s, p_drawC w16 hX e6', zkI_s, hm, t_qm_weathers, f2, zkV_s, hd, zkI_s]
  by_cases qr : nI (zlot X / 65536 % 100) < x4
  · rw [if_pos qr, if_pos qr]
    obtain ⟨C2, S2, g1, g2, g3, g4⟩ := p_wetG w16 (σ := (some 16, some q, ρ)) (J := J) (J' := zsJ J' 0 35 (zn6 (zlot X))) V2.1
    have V3 := zJv_r V2 g3 (g4 83 (by omega))
    rw [g1, zkI_s, g2, zkV_s]
    obtain ⟨I0', I1, I1', J1', X1, h1, h2, h3, h4, h5, h6, h7⟩ := p_gnaw w16 (J := J) hb V3 hl (by rw [zrI_ne _ _ (by decide)]; exact zsI_at _ _ _ _) ey
    rw [h1, zkV_s]
    exact ⟨I0', I1, I1', J1', rfl, h2, h3, ⟨fun i hi => by rw [h4.1 i hi, fr.1 i hi], by rw [h4.2, fr.2]⟩, X1, h5, h6, h7⟩
  · rw [if_neg qr, if_neg qr]
    obtain ⟨I0', I1, I1', J1', X1, h1, h2, h3, h4, h5, h6, h7⟩ := p_gnaw w16 (J := J) hb V2 hl (zsI_at _ _ _ _) ey
    rw [h1, zkV_s]
    exact ⟨I0', I1, I1', J1', rfl, h2, h3, ⟨fun i hi => by rw [h4.1 i hi, fr.1 i hi], by rw [h4.2, fr.2]⟩, X1, h5, h6, h7⟩
/-- what stands when a voyage is over -/
theorem p_over {q : Nat} {ρ : (Nat → Option Nat) × (Nat → Option Nat) × List zE} {nb nk ns nr nh b tt cq lq sq n m i : Nat} {L : List Nat} {nc : Nat} {kd shf ss ts te : Nat → Nat} {dl da : Int32} {I0 I I'0 I' : zTI} {J J' : zTJ} {x4 x6 : Int32} (hb : b < nb) (G0 : zGood nb nk ns nr nh (I0 3) (I'0 17)) (h83 : I0 17 83 = I0 3 83) (V : zJv nb nk ns nr nh 17 b tt q cq lq sq (zSC (some 16, some q, ρ)) L nc kd shf ss ts te dl da I0 I I'0 I') (hX : zXs I J') : ∃ I0' I1 I1', (zkI (qj_here (some 16, some q, ρ) I J) (zSC (some 16, some q, ρ)) (fun r27 I25 J26 => (zkI (qw_cell 2 86 0 (some 16, some q, ρ) I25 J26) (zSC (some 16, some q, ρ)) (fun r30 I28 J29 => (if r27 = r30 - 1 then (qj_drawVoyages_14 (nI n) (nI m) x4 (nI i + 1) (some 16, some q, ρ) (zsI I28 15 9 ((I28 15 9) + 1)) J29) else (qj_drawVoyages_14 (nI n) (nI m) x4 (nI i + 1) (some 16, some q, ρ) I28 J29)))))) = qj_drawVoyages_14 (nI n) (nI m) x4 (nI (i + 1)) (some 16, some q, ρ) I1 J ∧ (zkI (qm_stopOf (nI b) I' J') zSM (fun r15 I13 J14 => (if r15 = (I13 10 2) - 1 then (zkV (qm_putsBack I13 J14) zSM (fun I16 J17 => (qm_voyages_98 (nI tt) (nI b) (nI n) (nI m) x4 x6 (I 15 9 + 1) (nI i + 1) I16 J17))) else (zkV (qm_putsBack I13 J14) zSM (fun I18 J19 => (qm_voyages_98 (nI tt) (nI b) (nI n) (nI m) x4 x6 (I 15 9 + 0) (nI i + 1) I18 J19)))))) = qm_voyages_98 (nI tt) (nI b) (nI n) (nI m) x4 x6 (I1 15 9) (nI (i + 1)) I1' J' ∧ zJv nb nk ns nr nh 17 b tt q cq lq sq (zSC (some 16, some q, ρ)) L nc kd shf ss ts te dl da I0' (zrI I1 17 (va_cpy (I1 3) (I1 17) 0 0 251)) I'0 I1' ∧ (∀ i, i ≠ 15 → I0' i = I0 i) ∧ zXs I1 J' := by
  have w16 : zwc 16 17 := Or.inr (Or.inl ⟨rfl, rfl⟩)
  obtain ⟨v1, v2, v3, v4, ⟨v5, v5'⟩, v6, v7, v8, v9, v10, d1, d2, d3, d4, d5⟩ := id V
  obtain ⟨⟨n0, n1, n2, n3, n4⟩, ⟨s0, s1, s2, s3, s4⟩, ⟨c0, c1, c2, c3, c4⟩, cD, hBg, hK, -⟩ := id v1.1
  have i3 : I 3 = I0 3 := v6 3 (by decide) (by decide)
  have i17 : I' 17 = I'0 17 := v9 17 (by decide) (by decide)
  have e86 : I 3 86 = nI ns := by rw [i3]; exact G0.1.2.2.1.2.2.1
  have put : qm_putsBack I' J' = some (none, (zSM, zrI I' 10 (fun i => if 0 ≤ i ∧ i < 258 then I' 17 i else I' 10 i), J')) := by
    rw [t_qm_putsBack]
    exact p_putL 258 0 I' (by omega)
  have cpG : ∀ D : Nat → Int32, zGood nb nk ns nr nh (va_cpy (I 3) D 0 0 251) (fun i => if 0 ≤ i ∧ i < 258 then I' 17 i else I' 10 i) := fun D => zGood_cong G0 (fun k hk _ => by rw [zva_in (by omega), i3, show 0 + (k - 0) = k by omega]) (fun k hk => by rw [if_pos (by omega), i17])
  rw [t_qj_here 16 17 q w16, v2, pc1 w16 (by omega), zkI_s, zkI_s, (hBg b hb).2.2.2.2.2.1, show (qw_cell 2 86 0 (some 16, some q, ρ) I J) = some (some (.int (I 3 (86 + 0))), (zSC (some 16, some q, ρ), I, J)) from p_cellk w2 (y := 86) (a := 86) (k := 0) rfl (by omega) _ I J, zkI_s, pst (by omega), zkI_s, show I 3 (86 + 0) = nI ns from e86, s2, put, zkV_s, zkV_s, nI_1]
  by_cases qe : I' 10 (6 + 7 * b + 5) = nI ns - 1
  · rw [if_pos qe, if_pos qe]
    have V1 := zJv_x V 9 (Or.inr rfl) (I 15 9 + 1)
    refine ⟨_, _, _, rfl, by rw [zsI_at], zJv_r V1 ?_ ?_, fun i hi => zsI_ne _ _ _ hi, ?_⟩
    · rw [zsI_ne _ _ _ (by decide)]
      exact cpG _
    · rw [zva_in (by omega), zsI_ne _ _ _ (by decide), zsI_ne _ _ _ (by decide), i3, v8, h83]
    · obtain ⟨X, a1, a2, a3⟩ := hX
      exact ⟨X, a1, by rw [zsI_no _ _ _ (by decide)]; exact a2, a3⟩
  · rw [if_neg qe, if_neg qe, z_add0]
    refine ⟨_, _, _, rfl, rfl, zJv_r V (cpG _) ?_, fun i hi => rfl, hX⟩
    rw [zva_in (by omega), i3, v8, h83]
