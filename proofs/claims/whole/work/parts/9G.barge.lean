/-! ===== a river: the clause of a barge ===== -/
theorem zGc.rf {I : zTI} : zGc I I := ⟨fun _ _ _ => rfl, fun _ _ _ _ => rfl⟩
theorem zGm.rf {I : zTI} : zGm I I := ⟨fun _ _ _ => rfl, fun _ _ _ _ => rfl⟩
theorem zGc.tr {I I1 I2 : zTI} (h : zGc I I1) (g : zGc I1 I2) : zGc I I2 := ⟨fun i a b => (g.1 i a b).trans (h.1 i a b), fun k a b c => (g.2 k a b c).trans (h.2 k a b c)⟩
theorem zGm.tr {I I1 I2 : zTI} (h : zGm I I1) (g : zGm I1 I2) : zGm I I2 := ⟨fun i a b => (g.1 i a b).trans (h.1 i a b), fun k a b c => (g.2 k a b c).trans (h.2 k a b c)⟩
theorem zGc.s10 {I : zTI} (k : Nat) (v : Int32) : zGc I (zsI I 10 k v) := ⟨fun i _ b => zsI_ne _ _ _ b, fun _ _ _ _ => by rw [zsI_ne _ _ _ (by decide)]⟩
theorem zGm.s6 {I : zTI} (k : Nat) (v : Int32) : zGm I (zsI I 6 k v) := ⟨fun i _ b => zsI_ne _ _ _ b, fun _ _ _ _ => by rw [zsI_ne _ _ _ (by decide)]⟩
theorem zLx_s {t p : Nat} {B : Nat → Nat} {I I' I1 I1' : zTI} (L : zLx t B 7 8 p I I') (h7 : I1 7 = I 7) (h8 : I1 8 = I 8) (g0 : ∀ k, k = 1 ∨ k = 9 ∨ k = 10 → I1' 0 k = I' 0 k) (g1 : I1' 1 = I' 1) : zLx t B 7 8 p I1 I1' := by
  obtain ⟨m1, m2, m3, m4, m5, m6, m7⟩ := L
  exact ⟨by rw [h7]; exact m1, by rw [h7]; exact m2, by rw [g0 1 (by omega)]; exact m3, by rw [g0 9 (by omega)]; exact m4, m5, by rw [h8, g1]; exact m6, by rw [g0 10 (by omega)]; exact m7⟩
theorem zBad_tr {w : Nat} {I I' : zTI} (h : zBad w I I') : zBad w I I' := h
/-- numbers one after another: what has come out -/
def zOut (t : Nat) (B : Nat → Nat) (I I' : zTI) (r : Int32) (I1 I1' : zTI) (Q : Prop) : Prop := zGc I I1 ∧ zGm I' I1' ∧ ((r = 0 ∧ zBad 7 I1 I1') ∨ (r = 1 ∧ (∃ p1, zLx t B 7 8 p1 I1 I1') ∧ Q))
set_option maxHeartbeats 4000000 in
theorem p_barge {σ : zSg} {I I' : zTI} {J J' : zTJ} {t p nb : Nat} {B : Nat → Nat} (L : zLx t B 7 8 p I I') (hn : nb < 2) (c0 : I 10 84 = nI nb) (r0 : I' 6 0 = nI nb) : ∃ r I1 I1', qr_readBarge σ I J = some (some (.int r), (zSC σ, I1, J)) ∧ (zkI (qm_cellHere (6 + (7 * (I' 6 0))) 1 8 I' J') zSM (fun r11 I9 J10 => (if r11 = 0 then (some (some (.int 0), (zSM, I9, J10))) else (zkI (qm_cellHere ((6 + (7 * (I' 6 0))) + 1) 0 9999 I9 J10) zSM (fun r14 I12 J13 => (if r14 = 0 then (some (some (.int 0), (zSM, I12, J13))) else (zkI (qm_cellHere ((6 + (7 * (I' 6 0))) + 2) 1 99 I12 J13) zSM (fun r17 I15 J16 => (if r17 = 0 then (some (some (.int 0), (zSM, I15, J16))) else (zkI (qm_cellHere ((6 + (7 * (I' 6 0))) + 3) 1 999 I15 J16) zSM (fun r20 I18 J19 => (if r20 = 0 then (some (some (.int 0), (zSM, I18, J19))) else (qm_isBargeHere_97 (6 + (7 * (I' 6 0))) 4 I18 J19)))))))))))))= some (some (.int r), (zSM, I1', J')) ∧ zOut t B I I' r I1 I1' (∃ v0 v1 v2 v3, (1 ≤ v0 ∧ v0 ≤ 8) ∧ v1 ≤ 9999 ∧ (1 ≤ v2 ∧ v2 ≤ 99) ∧ (1 ≤ v3 ∧ v3 ≤ 999) ∧ I1 10 = upd (upd (upd (upd (upd (I 10) 84 (nI (nb + 1))) (89 + nb) (nI v0)) (91 + nb) (nI v1)) (93 + nb) (nI v2)) (95 + nb) (nI v3) ∧ I1' 6 = upd (upd (upd (upd (upd (upd (upd (upd (I' 6) (6 + 7 * nb + 0) (nI v0)) (6 + 7 * nb + 1) (nI v1)) (6 + 7 * nb + 2) (nI v2)) (6 + 7 * nb + 3) (nI v3)) (6 + 7 * nb + 4) 0) (6 + 7 * nb + 5) 0) (6 + 7 * nb + 6) 0) 0 (nI (nb + 1))) := by
  have e6 : (6 : Int32) + 7 * nI nb = nI (6 + 7 * nb + 0) := by rw [← zxg0, z_add0]
  have bd : ∀ {v a b : Nat} {lo hi : Int32}, v < 100000 → lo = nI a → hi = nI b → a < 100000 → b < 100000 → ¬ nI v < lo → ¬ hi < nI v → a ≤ v ∧ v ≤ b := fun h1 h2 h3 h4 h5 h6 h7 => by
    subst h2 h3
    exact ⟨Nat.le_of_not_lt fun h => h6 (nI_lt h (by omega)), Nat.le_of_not_lt fun h => h7 (nI_lt h (by omega))⟩
  have L0 : zLx t B 7 8 p (zsI I 10 84 (nI (nb + 1))) I' := zLx_s L (zsI_ne _ _ _ (by decide)) (zsI_ne _ _ _ (by decide)) (fun _ _ => rfl) rfl
  have f0 : zGc I (zsI I 10 84 (nI (nb + 1))) := zGc.s10 84 _
  rw [t_qr_readBarge, c0, nI_1, r0, e6, show (89 : Int32) + nI nb = nI (89 + nb) from nI_add 89 nb, show (91 : Int32) + nI nb = nI (91 + nb) from nI_add 91 nb, show (93 : Int32) + nI nb = nI (93 + nb) from nI_add 93 nb, show (95 : Int32) + nI nb = nI (95 + nb) from nI_add 95 nb, show nI (6 + 7 * nb + 0) + 1 = nI (6 + 7 * nb + 1) from nI_add _ 1, show nI (6 + 7 * nb + 0) + 2 = nI (6 + 7 * nb + 2) from nI_add _ 2, show nI (6 + 7 * nb + 0) + 3 = nI (6 + 7 * nb + 3) from nI_add _ 3]
  obtain ⟨r, I1, I1', a1, a2, a3, a4, a5⟩ := p_into (σ := σ) (J := J) (J' := J') (lo := 1) (hi := 8) (x := 89 + nb) (y := 6 + 7 * nb + 0) L0 (by omega) (by omega)
  rw [a1, zkI_s, a2, zkI_s]
  rcases a5 with ⟨rfl, hb⟩ | ⟨rfl, p1, v0, L1, -, q1, q2, q3, -, -, q4, q5⟩
  · rw [if_pos rfl, if_pos rfl]
    exact ⟨0, I1, I1', rfl, rfl, f0.tr a3, a4, Or.inl ⟨rfl, hb⟩⟩
  rw [if_neg z10, if_neg z10]
  obtain ⟨r, I2, I2', b1, b2, b3, b4, b5⟩ := p_into (σ := σ) (J := J) (J' := J') (lo := 0) (hi := 9999) (x := 91 + nb) (y := 6 + 7 * nb + 1) L1 (by omega) (by omega)
  rw [b1, zkI_s, b2, zkI_s]
  rcases b5 with ⟨rfl, hb⟩ | ⟨rfl, p2, v1, L2, -, w1, w2', w3, -, -, w4, w5⟩
  · rw [if_pos rfl, if_pos rfl]
    exact ⟨0, I2, I2', rfl, rfl, (f0.tr a3).tr b3, a4.tr b4, Or.inl ⟨rfl, hb⟩⟩
  rw [if_neg z10, if_neg z10]
  obtain ⟨r, I3, I3', c1, c2, c3, c4, c5⟩ := p_into (σ := σ) (J := J) (J' := J') (lo := 1) (hi := 99) (x := 93 + nb) (y := 6 + 7 * nb + 2) L2 (by omega) (by omega)
  rw [c1, zkI_s, c2, zkI_s]
  rcases c5 with ⟨rfl, hb⟩ | ⟨rfl, p3, v2, L3, -, u1, u2, u3, -, -, u4, u5⟩
  · rw [if_pos rfl, if_pos rfl]
    exact ⟨0, I3, I3', rfl, rfl, ((f0.tr a3).tr b3).tr c3, (a4.tr b4).tr c4, Or.inl ⟨rfl, hb⟩⟩
  rw [if_neg z10, if_neg z10]
  obtain ⟨r, I4, I4', d1, d2, d3, d4, d5⟩ := p_into (σ := σ) (J := J) (J' := J') (lo := 1) (hi := 999) (x := 95 + nb) (y := 6 + 7 * nb + 3) L3 (by omega) (by omega)
  rw [d1, zkI_s, d2, zkI_s]
  rcases d5 with ⟨rfl, hb⟩ | ⟨rfl, p4, v3, L4, -, m1, m2, m3, -, -, m4, m5⟩
  · rw [if_pos rfl, if_pos rfl]
    exact ⟨0, I4, I4', rfl, rfl, (((f0.tr a3).tr b3).tr c3).tr d3, ((a4.tr b4).tr c4).tr d4, Or.inl ⟨rfl, hb⟩⟩
  rw [if_neg z10, if_neg z10]
  have k4 : nI (6 + 7 * nb + 0) + 4 = nI (6 + 7 * nb + 4) := nI_add _ 4
  have k5 : nI (6 + 7 * nb + 0) + (4 + 1) = nI (6 + 7 * nb + 5) := nI_add _ 5
  have k6 : nI (6 + 7 * nb + 0) + (4 + 1 + 1) = nI (6 + 7 * nb + 6) := nI_add _ 6
  rw [t_qm_isBargeHere_97, if_pos (by decide), k4, zif_n (by omega) (by omega), ztnn (by omega), t_qm_isBargeHere_97, if_pos (by decide), k5, zif_n (by omega) (by omega), ztnn (by omega), t_qm_isBargeHere_97, if_pos (by decide), k6, zif_n (by omega) (by omega), ztnn (by omega), t_qm_isBargeHere_97, if_neg (by decide)]
  have e0 : zsI (zsI (zsI I4' 6 (6 + 7 * nb + 4) 0) 6 (6 + 7 * nb + 5) 0) 6 (6 + 7 * nb + 6) 0 6 0 + 1 = nI (nb + 1) := by
    rw [zsI_no _ _ _ (by omega), zsI_no _ _ _ (by omega), zsI_no _ _ _ (by omega), m3, u_no (by omega), u3, u_no (by omega), w3, u_no (by omega), q3, u_no (by omega), r0, nI_1]
  rw [e0]
  refine ⟨1, _, _, rfl, rfl, (((f0.tr a3).tr b3).tr c3).tr d3, ((((((a4.tr b4).tr c4).tr d4).tr (zGm.s6 _ _)).tr (zGm.s6 _ _)).tr (zGm.s6 _ _)).tr (zGm.s6 _ _), Or.inr ⟨rfl, ⟨p4, zLx_s L4 rfl rfl (fun k _ => ?_) ?_⟩, v0, v1, v2, v3, bd q1 rfl rfl (by omega) (by omega) q4 q5, (bd w1 (a := 0) (b := 9999) rfl rfl (by omega) (by omega) w4 w5).2, bd u1 rfl rfl (by omega) (by omega) u4 u5, bd m1 rfl rfl (by omega) (by omega) m4 m5, ?_, ?_⟩⟩
  · rw [zsI_ne _ _ _ (by decide), zsI_ne _ _ _ (by decide), zsI_ne _ _ _ (by decide), zsI_ne _ _ _ (by decide)]
  · rw [zsI_ne _ _ _ (by decide), zsI_ne _ _ _ (by decide), zsI_ne _ _ _ (by decide), zsI_ne _ _ _ (by decide)]
  · rw [m2, u2, w2', q2, zsI_row]
  · rw [zsI_row, zsI_row, zsI_row, zsI_row, m3, u3, w3, q3]
