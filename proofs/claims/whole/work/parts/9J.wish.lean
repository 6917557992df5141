/-! ===== a river: the clause of a wish ===== -/
theorem zFc.g {I I1 : zTI} (h : zFc 7 I I1) : zGc I I1 := ⟨fun i a _ => h.1 i a, h.2⟩
theorem zFm.g {I I1 : zTI} (h : zFm I I1) : zGm I I1 := ⟨fun i a _ => h.1 i a, h.2⟩
set_option maxHeartbeats 4000000 in
theorem p_wish2 {σ : zSg} {I I' : zTI} {J J' : zTJ} {t p nk nr : Nat} {B : Nat → Nat} (L : zLx t B 7 8 p I I') (hn : nr ≤ 6) (hk : nk ≤ 12) (c1 : I 10 85 = nI nk) (r1 : I' 6 1 = nI nk) (c3 : I 10 87 = nI nr) (r3 : I' 6 3 = nI nr) : ∃ r I1 I1', qr_readWish σ I J = some (some (.int r), (zSC σ, I1, J)) ∧ (zkI (qm_numberHere 0 ((I' 6 3) - 1) I' J') zSM (fun r5 I3 J4 => (if r5 = 0 then (some (some (.int 0), (zSM, I3, J4))) else (zkI (qm_numberHere 0 ((I3 6 1) - 1) I3 J4) zSM (fun r8 I6 J7 => (if r8 = 0 then (some (some (.int 0), (zSM, I6, J7))) else (zkI (qm_cellHere ((174 + (12 * (I3 0 11))) + (I6 0 11)) 1 99 I6 J7) zSM (fun r11 I9 J10 => (zif (zbo r11) (some (some (.int r11), (zSM, I9, J10)))))))))))) = some (some (.int r), (zSM, I1', J')) ∧ zOut t B I I' r I1 I1' (∃ v0 v1 v2, v0 < nr ∧ v1 < nk ∧ (1 ≤ v2 ∧ v2 ≤ 99) ∧ I1 10 = upd (I 10) (171 + (12 * v0 + v1)) (nI v2) ∧ I1' 6 = upd (I' 6) (174 + 12 * v0 + v1) (nI v2)) := by
  rw [t_qr_readWish, c3, r3]
  obtain ⟨r, I1, I1', a1, a2, a3, a4, a5⟩ := p_number s7 (σ := σ) (J := J) (J' := J') (lo := 0) (hi := nI nr - 1) L
  rw [a1, zkI_s, a2, zkI_s]
  rcases a5 with ⟨rfl, hb⟩ | ⟨rfl, p1, v0, L1, -, q1, q2, q3, q4, q5⟩
  · rw [if_pos rfl, if_pos rfl]
    exact ⟨0, I1, I1', rfl, rfl, a3.g, a4.g, Or.inl ⟨rfl, hb⟩⟩
  have h0 := zsb1 q1 (by omega) q5
  rw [if_neg z10, if_neg z10, a3.1 10 (by decide), c1, a4.1 6 (by decide), r1]
  obtain ⟨r, I2, I2', b1, b2, b3, b4, b5⟩ := p_number s7 (σ := σ) (J := J) (J' := J') (lo := 0) (hi := nI nk - 1) L1
  rw [b1, zkI_s, b2, zkI_s]
  rcases b5 with ⟨rfl, hb⟩ | ⟨rfl, p2, v1, L2, -, w1, w2', w3, w4, w5⟩
  · rw [if_pos rfl, if_pos rfl]
    exact ⟨0, I2, I2', rfl, rfl, a3.g.tr b3.g, a4.g.tr b4.g, Or.inl ⟨rfl, hb⟩⟩
  have h1 := zsb1 w1 (by omega) w5
  have ex : (171 : Int32) + nI v0 * 12 + nI v1 = nI (171 + (12 * v0 + v1)) := by
    rw [show (12 : Int32) = nI 12 from rfl, zI_muln (by omega) (by omega) (by omega), show (171 : Int32) + nI (v0 * 12) = nI (171 + v0 * 12) from nI_add 171 _, show nI (171 + v0 * 12) + nI v1 = nI (171 + v0 * 12 + v1) from nI_add _ _]
    congr 1
    omega
  have ey : (174 : Int32) + 12 * nI v0 + nI v1 = nI (174 + 12 * v0 + v1) := by
    rw [show (12 : Int32) = nI 12 from rfl, zI_muln (by omega) (by omega) (by omega), show (174 : Int32) + nI (12 * v0) = nI (174 + 12 * v0) from nI_add 174 _]
    exact nI_add _ _
  rw [if_neg z10, if_neg z10, q2, w2', ex, q3, w3, ey]
  obtain ⟨r, I3, I3', d1, d2, d3, d4, d5⟩ := p_into (σ := σ) (J := J) (J' := J') (lo := 1) (hi := 99) (x := 171 + (12 * v0 + v1)) (y := 174 + 12 * v0 + v1) L2 (by omega) (by omega)
  rw [d1, zkI_s, d2, zkI_s]
  rcases d5 with ⟨rfl, hb⟩ | ⟨rfl, p3, v2, L3, -, u1, u2, u3, -, -, u4, u5⟩
  · rw [zif_t (show zbo 0 = true by decide), zif_t (show zbo 0 = true by decide)]
    exact ⟨0, I3, I3', rfl, rfl, (a3.g.tr b3.g).tr d3, (a4.g.tr b4.g).tr d4, Or.inl ⟨rfl, hb⟩⟩
  · rw [zif_t (show zbo 1 = true by decide), zif_t (show zbo 1 = true by decide)]
    exact ⟨1, I3, I3', rfl, rfl, (a3.g.tr b3.g).tr d3, (a4.g.tr b4.g).tr d4, Or.inr ⟨rfl, ⟨p3, L3⟩, v0, v1, v2, h0, h1, zbd3 u1 rfl rfl (by omega) (by omega) u4 u5, by rw [u2, b3.1 10 (by decide), a3.1 10 (by decide)], by rw [u3, b4.1 6 (by decide), a4.1 6 (by decide)]⟩⟩
