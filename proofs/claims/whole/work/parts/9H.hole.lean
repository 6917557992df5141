/-! ===== a river: the clause of a hole ===== -/
theorem zbd3 {v a b : Nat} {lo hi : Int32} (h1 : v < 100000) (h2 : lo = nI a) (h3 : hi = nI b) (h4 : a < 100000) (h5 : b < 100000) (h6 : ¬ nI v < lo) (h7 : ¬ hi < nI v) : a ≤ v ∧ v ≤ b := by
  subst h2 h3
  exact ⟨Nat.le_of_not_lt fun h => h6 (nI_lt h (by omega)), Nat.le_of_not_lt fun h => h7 (nI_lt h (by omega))⟩
set_option maxHeartbeats 4000000 in
theorem p_hole2 {σ : zSg} {I I' : zTI} {J J' : zTJ} {t p nb nh : Nat} {B : Nat → Nat} (L : zLx t B 7 8 p I I') (hn : nh < 4) (hb1 : 1 ≤ nb) (hb2 : nb ≤ 2) (c0 : I 10 84 = nI nb) (r0 : I' 6 0 = nI nb) (c4 : I 10 88 = nI nh) (r4 : I' 6 4 = nI nh) : ∃ r I1 I1', qr_readHole σ I J = some (some (.int r), (zSC σ, I1, J)) ∧ (zkI (qm_cellHere (246 + (3 * (I' 6 4))) 0 ((I' 6 0) - 1) I' J') zSM (fun r8 I6 J7 => (if r8 = 0 then (some (some (.int 0), (zSM, I6, J7))) else (zkI (qm_cellHere ((246 + (3 * (I' 6 4))) + 1) 1 99 I6 J7) zSM (fun r11 I9 J10 => (if r11 = 0 then (some (some (.int 0), (zSM, I9, J10))) else (zif (zin ((246 + (3 * (I' 6 4))) + 2) 258) (some (some (.int 1), (zSM, (zsI (zsI I9 6 (((246 + (3 * (I' 6 4))) + 2).toNatClampNeg) 0) 6 4 (((zsI I9 6 (((246 + (3 * (I' 6 4))) + 2).toNatClampNeg) 0) 6 4) + 1)), J10)))))))))) = some (some (.int r), (zSM, I1', J')) ∧ zOut t B I I' r I1 I1' (∃ v0 v1, v0 < nb ∧ (1 ≤ v1 ∧ v1 ≤ 99) ∧ I1 10 = upd (upd (upd (I 10) 88 (nI (nh + 1))) (243 + nh) (nI v0)) (247 + nh) (nI v1) ∧ I1' 6 = upd (upd (upd (upd (I' 6) (246 + 3 * nh + 0) (nI v0)) (246 + 3 * nh + 1) (nI v1)) (246 + 3 * nh + 2) 0) 4 (nI (nh + 1))) := by
  have e6 : (246 : Int32) + 3 * nI nh = nI (246 + 3 * nh + 0) := by
    rw [show (3 : Int32) = nI 3 from rfl, zI_muln (by omega) (by omega) (by omega)]
    exact nI_add 246 _
  have em : nI nb - 1 = nI (nb - 1) := z_sub1 (k := 1) (by omega)
  have L0 : zLx t B 7 8 p (zsI I 10 88 (nI (nh + 1))) I' := zLx_s L (zsI_ne _ _ _ (by decide)) (zsI_ne _ _ _ (by decide)) (fun _ _ => rfl) rfl
  have f0 : zGc I (zsI I 10 88 (nI (nh + 1))) := zGc.s10 88 _
  rw [t_qr_readHole, c4, nI_1, c0, em, r0, r4, em, e6, show (243 : Int32) + nI nh = nI (243 + nh) from nI_add 243 nh, show (247 : Int32) + nI nh = nI (247 + nh) from nI_add 247 nh, show nI (246 + 3 * nh + 0) + 1 = nI (246 + 3 * nh + 1) from nI_add _ 1, show nI (246 + 3 * nh + 0) + 2 = nI (246 + 3 * nh + 2) from nI_add _ 2]
  obtain ⟨r, I1, I1', a1, a2, a3, a4, a5⟩ := p_into (σ := σ) (J := J) (J' := J') (lo := 0) (hi := nI (nb - 1)) (x := 243 + nh) (y := 246 + 3 * nh + 0) L0 (by omega) (by omega)
  rw [a1, zkI_s, a2, zkI_s]
  rcases a5 with ⟨rfl, hb⟩ | ⟨rfl, p1, v0, L1, -, q1, q2, q3, -, -, q4, q5⟩
  · rw [if_pos rfl, if_pos rfl]
    exact ⟨0, I1, I1', rfl, rfl, f0.tr a3, a4, Or.inl ⟨rfl, hb⟩⟩
  rw [if_neg z10, if_neg z10]
  obtain ⟨r, I2, I2', b1, b2, b3, b4, b5⟩ := p_into (σ := σ) (J := J) (J' := J') (lo := 1) (hi := 99) (x := 247 + nh) (y := 246 + 3 * nh + 1) L1 (by omega) (by omega)
  rw [b1, zkI_s, b2, zkI_s]
  rcases b5 with ⟨rfl, hb⟩ | ⟨rfl, p2, v1, L2, -, w1, w2', w3, -, -, w4, w5⟩
  · rw [if_pos rfl, if_pos rfl]
    exact ⟨0, I2, I2', rfl, rfl, (f0.tr a3).tr b3, a4.tr b4, Or.inl ⟨rfl, hb⟩⟩
  rw [if_neg z10, if_neg z10, zif_n (by omega) (by omega), ztnn (by omega)]
  have e0 : zsI I2' 6 (246 + 3 * nh + 2) 0 6 4 + 1 = nI (nh + 1) := by
    rw [zsI_no _ _ _ (by omega), w3, u_no (by omega), q3, u_no (by omega), r4, nI_1]
  rw [e0]
  refine ⟨1, _, _, rfl, rfl, (f0.tr a3).tr b3, (((a4.tr b4).tr (zGm.s6 _ _)).tr (zGm.s6 _ _)), Or.inr ⟨rfl, ⟨p2, zLx_s L2 rfl rfl (fun k _ => ?_) ?_⟩, v0, v1, ?_, zbd3 w1 rfl rfl (by omega) (by omega) w4 w5, ?_, ?_⟩⟩
  · rw [zsI_ne _ _ _ (by decide), zsI_ne _ _ _ (by decide)]
  · rw [zsI_ne _ _ _ (by decide), zsI_ne _ _ _ (by decide)]
  · have := (zbd3 q1 (a := 0) (b := nb - 1) rfl rfl (by omega) (by omega) q4 q5).2
    omega
  · rw [w2', q2, zsI_row]
  · rw [zsI_row, zsI_row, w3, q3]
