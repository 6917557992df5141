/-! ===== a river: the clause of a stop, whole ===== -/
set_option maxHeartbeats 4000000 in
theorem p_stop2 {σ : zSg} {I I' : zTI} {J J' : zTJ} {t p ns : Nat} {B : Nat → Nat} (L : zLx t B 7 8 p I I') (hn : ns < 8) (c2 : I 10 86 = nI ns) (r2 : I' 6 2 = nI ns) : ∃ r I1 I1', qr_readStop σ I J = some (some (.int r), (zSC σ, I1, J)) ∧ (zif (zin (104 + (5 * (I' 6 2))) 258) (qm_isStopHere_41 (104 + (5 * (I' 6 2))) (zsI I' 6 ((104 + (5 * (I' 6 2))).toNatClampNeg) 0) J')) = some (some (.int r), (zSM, I1', J')) ∧ zOut t B I I' r I1 I1' (∃ n R, 1 ≤ n ∧ n ≤ 4 ∧ R (104 + 5 * ns) = nI n ∧ zSv (121 + 4 * ns) (104 + 5 * ns) n (I1 10) R (upd (I 10) 86 (nI (ns + 1))) (I' 6) ∧ I1' 6 = upd R 2 (nI (ns + 1))) := by
  have ex : (121 : Int32) + nI ns * 4 = nI (121 + 4 * ns) := by
    rw [show (4 : Int32) = nI 4 from rfl, zI_muln (by omega) (by omega) (by omega), show (121 : Int32) + nI (ns * 4) = nI (121 + ns * 4) from nI_add 121 _, Nat.mul_comm]
  have ey : (104 : Int32) + 5 * nI ns = nI (104 + 5 * ns) := by
    rw [show (5 : Int32) = nI 5 from rfl, zI_muln (by omega) (by omega) (by omega)]
    exact nI_add 104 _
  have L0 : zLx t B 7 8 p (zsI I 10 86 (nI (ns + 1))) (zsI I' 6 (104 + 5 * ns) 0) := zLx_s L (zsI_ne _ _ _ (by decide)) (zsI_ne _ _ _ (by decide)) (fun _ _ => by rw [zsI_ne _ _ _ (by decide)]) (zsI_ne _ _ _ (by decide))
  have V0 : zSv (121 + 4 * ns) (104 + 5 * ns) 0 (zsI I 10 86 (nI (ns + 1)) 10) (zsI I' 6 (104 + 5 * ns) 0 6) (upd (I 10) 86 (nI (ns + 1))) (I' 6) := ⟨fun h => by omega, fun i h => by omega, fun i _ => by rw [zsI_row], fun i hi => zsI_no _ _ _ (by omega)⟩
  obtain ⟨r, I1, I1', a1, a2, a3, a4, a5⟩ := p_stopM (σ := σ) (J := J) (J' := J') hn r2 3 0 p _ _ (by omega) L0 (zsI_at _ _ _ _) V0
  have e : qr_readStop σ I J = zFd σ (121 + 4 * ns) 0 (zsI I 10 86 (nI (ns + 1))) J := by
    rw [t_qr_readStop, c2, nI_1, ex, show nI (121 + 4 * ns) + 4 = nI (121 + 4 * ns + 4) from nI_add _ 4]
    rfl
  rw [e, a1, r2, ey, zif_n (by omega) (by omega), ztnn (by omega), a2]
  exact ⟨r, I1, I1', rfl, rfl, (zGc.s10 86 _).tr a3, (zGm.s6 _ _).tr a4, a5⟩
