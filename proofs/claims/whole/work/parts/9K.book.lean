/-! ===== a river: the clause of a book ===== -/
set_option maxHeartbeats 8000000 in
theorem p_book2 {σ : zSg} {I I' : zTI} {J J' : zTJ} {t p nb nk : Nat} {B : Nat → Nat} (L : zLx t B 7 8 p I I') (hn : nk < 12) (hb2 : nb ≤ 2) (c0 : I 10 84 = nI nb) (r0 : I' 6 0 = nI nb) (c1 : I 10 85 = nI nk) (r1 : I' 6 1 = nI nk) (hB : ∀ b, b < nb → I 10 (89 + b) = I' 6 (6 + 7 * b + 0)) : ∃ r I1 I1', qr_readBook σ I J = some (some (.int r), (zSC σ, I1, J)) ∧ (zkI (qm_cellHere (20 + (7 * (I' 6 1))) 1 99 I' J') zSM (fun r8 I6 J7 => (if r8 = 0 then (some (some (.int 0), (zSM, I6, J7))) else (zkI (qm_cellHere ((20 + (7 * (I' 6 1))) + 1) 0 99 I6 J7) zSM (fun r11 I9 J10 => (if r11 = 0 then (some (some (.int 0), (zSM, I9, J10))) else (zkI (qm_numberHere 0 ((I9 6 0) - 1) I9 J10) zSM (fun r14 I12 J13 => (if r14 = 0 then (some (some (.int 0), (zSM, I12, J13))) else (zif (zin ((20 + (7 * (I' 6 1))) + 4) 258) (zif (zin (6 + (7 * (I12 0 11))) 258) (zkI (qm_cellHere ((20 + (7 * (I' 6 1))) + 3) 0 (((zsI I12 6 (((20 + (7 * (I' 6 1))) + 4).toNatClampNeg) (100 + (I12 0 11))) 6 ((6 + (7 * (I12 0 11))).toNatClampNeg)) - 1) (zsI I12 6 (((20 + (7 * (I' 6 1))) + 4).toNatClampNeg) (100 + (I12 0 11))) J13) zSM (fun r17 I15 J16 => (if r17 = 0 then (some (some (.int 0), (zSM, I15, J16))) else (zif (zin ((20 + (7 * (I' 6 1))) + 2) 258) (zif (zin ((20 + (7 * (I' 6 1))) + 5) 258) (zif (zin ((20 + (7 * (I' 6 1))) + 6) 258) (some (some (.int 1), (zSM, (zsI (zsI (zsI (zsI I15 6 (((20 + (7 * (I' 6 1))) + 2).toNatClampNeg) 0) 6 (((20 + (7 * (I' 6 1))) + 5).toNatClampNeg) 0) 6 (((20 + (7 * (I' 6 1))) + 6).toNatClampNeg) (-1)) 6 1 (((zsI (zsI (zsI I15 6 (((20 + (7 * (I' 6 1))) + 2).toNatClampNeg) 0) 6 (((20 + (7 * (I' 6 1))) + 5).toNatClampNeg) 0) 6 (((20 + (7 * (I' 6 1))) + 6).toNatClampNeg) (-1)) 6 1) + 1)), J16)))))))))))))))))))) = some (some (.int r), (zSM, I1', J')) ∧ zOut t B I I' r I1 I1' (∃ v0 v1 vb v3, (1 ≤ v0 ∧ v0 ≤ 99) ∧ v1 ≤ 99 ∧ vb < nb ∧ ¬ (I' 6 (6 + 7 * vb + 0) - 1 < nI v3) ∧ v3 < 100000 ∧ I1 10 = upd (upd (upd (upd (upd (I 10) 85 (nI (nk + 1))) (97 + nk) (nI v0)) (109 + nk) (nI v1)) (47 + nk) (100 + nI vb)) (23 + nk) (nI v3) ∧ I1' 6 = upd (upd (upd (upd (upd (upd (upd (upd (I' 6) (20 + 7 * nk + 0) (nI v0)) (20 + 7 * nk + 1) (nI v1)) (20 + 7 * nk + 4) (100 + nI vb)) (20 + 7 * nk + 3) (nI v3)) (20 + 7 * nk + 2) 0) (20 + 7 * nk + 5) 0) (20 + 7 * nk + 6) (-1)) 1 (nI (nk + 1))) := by
  have e6 : (20 : Int32) + 7 * nI nk = nI (20 + 7 * nk + 0) := by rw [← zxb0, z_add0]
  have L0 : zLx t B 7 8 p (zsI I 10 85 (nI (nk + 1))) I' := zLx_s L (zsI_ne _ _ _ (by decide)) (zsI_ne _ _ _ (by decide)) (fun _ _ => rfl) rfl
  have f0 : zGc I (zsI I 10 85 (nI (nk + 1))) := zGc.s10 85 _
  rw [t_qr_readBook, c1, nI_1, r1, e6, show (97 : Int32) + nI nk = nI (97 + nk) from nI_add 97 nk, show (109 : Int32) + nI nk = nI (109 + nk) from nI_add 109 nk, show (47 : Int32) + nI nk = nI (47 + nk) from nI_add 47 nk, show (23 : Int32) + nI nk = nI (23 + nk) from nI_add 23 nk, show nI (20 + 7 * nk + 0) + 1 = nI (20 + 7 * nk + 1) from nI_add _ 1, show nI (20 + 7 * nk + 0) + 2 = nI (20 + 7 * nk + 2) from nI_add _ 2, show nI (20 + 7 * nk + 0) + 3 = nI (20 + 7 * nk + 3) from nI_add _ 3, show nI (20 + 7 * nk + 0) + 4 = nI (20 + 7 * nk + 4) from nI_add _ 4, show nI (20 + 7 * nk + 0) + 5 = nI (20 + 7 * nk + 5) from nI_add _ 5, show nI (20 + 7 * nk + 0) + 6 = nI (20 + 7 * nk + 6) from nI_add _ 6]
  obtain ⟨r, I1, I1', a1, a2, a3, a4, a5⟩ := p_into (σ := σ) (J := J) (J' := J') (lo := 1) (hi := 99) (x := 97 + nk) (y := 20 + 7 * nk + 0) L0 (by omega) (by omega)
  rw [a1, zkI_s, a2, zkI_s]
  rcases a5 with ⟨rfl, hb⟩ | ⟨rfl, p1, v0, L1, -, q1, q2, q3, -, -, q4, q5⟩
  · rw [if_pos rfl, if_pos rfl]
    exact ⟨0, I1, I1', rfl, rfl, f0.tr a3, a4, Or.inl ⟨rfl, hb⟩⟩
  rw [if_neg z10, if_neg z10]
  obtain ⟨r, I2, I2', b1, b2, b3, b4, b5⟩ := p_into (σ := σ) (J := J) (J' := J') (lo := 0) (hi := 99) (x := 109 + nk) (y := 20 + 7 * nk + 1) L1 (by omega) (by omega)
  rw [b1, zkI_s, b2, zkI_s]
  rcases b5 with ⟨rfl, hb⟩ | ⟨rfl, p2, v1, L2, -, w1, w2', w3, -, -, w4, w5⟩
  · rw [if_pos rfl, if_pos rfl]
    exact ⟨0, I2, I2', rfl, rfl, (f0.tr a3).tr b3, a4.tr b4, Or.inl ⟨rfl, hb⟩⟩
  have ec : I2 10 84 = nI nb := by rw [w2', u_no (by omega), q2, u_no (by omega), zsI_no _ _ _ (by decide), c0]
  have er : I2' 6 0 = nI nb := by rw [w3, u_no (by omega), q3, u_no (by omega), r0]
  rw [if_neg z10, if_neg z10, ec, er]
  obtain ⟨r, I3, I3', d1, d2, d3, d4, d5⟩ := p_number s7 (σ := σ) (J := J) (J' := J') (lo := 0) (hi := nI nb - 1) L2
  rw [d1, zkI_s, d2, zkI_s]
  rcases d5 with ⟨rfl, hb⟩ | ⟨rfl, p3, vb, L3, -, u1, u2, u3, u4, u5⟩
  · rw [if_pos rfl, if_pos rfl]
    exact ⟨0, I3, I3', rfl, rfl, ((f0.tr a3).tr b3).tr d3.g, (a4.tr b4).tr d4.g, Or.inl ⟨rfl, hb⟩⟩
  have hvb := zsb1 u1 (by omega) u5
  have ey : (6 : Int32) + 7 * nI vb = nI (6 + 7 * vb + 0) := by rw [← zxg0, z_add0]
  rw [if_neg z10, if_neg z10, u2, u3, ey, zif_n (by omega) (by omega), zif_n (by omega) (by omega), zif_n (by omega) (by omega), ztnn (by omega), ztnn (by omega), ztnn (by omega), pc89 w9 (by omega), zkI_s]
  have g1 : zsI I3 10 (47 + nk) (100 + nI vb) 10 (89 + vb) = I' 6 (6 + 7 * vb + 0) := by
    rw [zsI_no _ _ _ (by omega), d3.1 10 (by decide), w2', u_no (by omega), q2, u_no (by omega), zsI_no _ _ _ (by omega), hB vb hvb]
  have g2 : zsI I3' 6 (20 + 7 * nk + 4) (100 + nI vb) 6 (6 + 7 * vb + 0) = I' 6 (6 + 7 * vb + 0) := by
    rw [zsI_no _ _ _ (by omega), d4.1 6 (by decide), w3, u_no (by omega), q3, u_no (by omega)]
  rw [g1, g2]
  obtain ⟨r, I4, I4', h1, h2, h3, h4, h5⟩ := p_into (σ := σ) (J := J) (J' := J') (lo := 0) (hi := I' 6 (6 + 7 * vb + 0) - 1) (x := 23 + nk) (y := 20 + 7 * nk + 3) (zLx_s (I1 := zsI I3 10 (47 + nk) (100 + nI vb)) (I1' := zsI I3' 6 (20 + 7 * nk + 4) (100 + nI vb)) L3 (zsI_ne _ _ _ (by decide)) (zsI_ne _ _ _ (by decide)) (fun _ _ => by rw [zsI_ne _ _ _ (by decide)]) (zsI_ne _ _ _ (by decide))) (by omega) (by omega)
  have gc := ((((f0.tr a3).tr b3).tr d3.g).tr (zGc.s10 (47 + nk) (100 + nI vb))).tr h3
  have gm := (((a4.tr b4).tr d4.g).tr (zGm.s6 (20 + 7 * nk + 4) (100 + nI vb))).tr h4
  rw [h1, zkI_s, h2, zkI_s]
  rcases h5 with ⟨rfl, hb⟩ | ⟨rfl, p4, v3, L4, -, m1, m2, m3, -, -, m4, m5⟩
  · rw [if_pos rfl, zif_t (show zbo 0 = true by decide)]
    exact ⟨0, I4, I4', rfl, rfl, gc, gm, Or.inl ⟨rfl, hb⟩⟩
  rw [if_neg z10, zif_t (show zbo 1 = true by decide), zif_n (by omega) (by omega), zif_n (by omega) (by omega), zif_n (by omega) (by omega), ztnn (by omega), ztnn (by omega), ztnn (by omega)]
  have e0 : zsI (zsI (zsI I4' 6 (20 + 7 * nk + 2) 0) 6 (20 + 7 * nk + 5) 0) 6 (20 + 7 * nk + 6) (-1) 6 1 + 1 = nI (nk + 1) := by
    rw [zsI_no _ _ _ (by omega), zsI_no _ _ _ (by omega), zsI_no _ _ _ (by omega), m3, u_no (by omega), zsI_no _ _ _ (by omega), d4.1 6 (by decide), w3, u_no (by omega), q3, u_no (by omega), r1, nI_1]
  rw [e0]
  refine ⟨1, _, _, rfl, rfl, gc, (((gm.tr (zGm.s6 _ _)).tr (zGm.s6 _ _)).tr (zGm.s6 _ _)).tr (zGm.s6 _ _), Or.inr ⟨rfl, ⟨p4, zLx_s L4 rfl rfl (fun k _ => ?_) ?_⟩, v0, v1, vb, v3, zbd3 q1 rfl rfl (by omega) (by omega) q4 q5, (zbd3 w1 (a := 0) (b := 99) rfl rfl (by omega) (by omega) w4 w5).2, hvb, m5, m1, ?_, ?_⟩⟩
  · rw [zsI_ne _ _ _ (by decide), zsI_ne _ _ _ (by decide), zsI_ne _ _ _ (by decide), zsI_ne _ _ _ (by decide)]
  · rw [zsI_ne _ _ _ (by decide), zsI_ne _ _ _ (by decide), zsI_ne _ _ _ (by decide), zsI_ne _ _ _ (by decide)]
  · rw [m2, zsI_row, d3.1 10 (by decide), w2', q2, zsI_row]
  · rw [zsI_row, zsI_row, zsI_row, zsI_row, m3, zsI_row, d4.1 6 (by decide), w3, q3]
