/-! ===== a river: a stop's depths, one after another ===== -/
set_option maxHeartbeats 8000000 in
theorem p_stopM {σ : zSg} {J J' : zTJ} {t ns : Nat} {B : Nat → Nat} {C0 R0 : Nat → Int32} (hn : ns < 8) (r2 : R0 2 = nI ns) : ∀ (d m p : Nat) (I I' : zTI), m + d = 3 → zLx t B 7 8 p I I' → I' 6 (104 + 5 * ns) = nI m → zSv (121 + 4 * ns) (104 + 5 * ns) m (I 10) (I' 6) C0 R0 → ∃ r I1 I1', zFd σ (121 + 4 * ns) m I J = some (some (.int r), (zSC σ, I1, J)) ∧ qm_isStopHere_41 (nI (104 + 5 * ns)) I' J' = some (some (.int r), (zSM, I1', J')) ∧ zOut t B I I' r I1 I1' (∃ n R, 1 ≤ n ∧ n ≤ 4 ∧ R (104 + 5 * ns) = nI n ∧ zSv (121 + 4 * ns) (104 + 5 * ns) n (I1 10) R C0 R0 ∧ I1' 6 = upd R 2 (nI (ns + 1))) := by
  intro d
  induction d with
  | zero =>
    intro m p I I' hm L es V
    obtain ⟨r, I1, I1', a1, a2, a3, a4, a5⟩ := p_number s7 (σ := σ) (J := J) (J' := J') (lo := 1) (hi := 999) L
    have ex : nI (104 + 5 * ns) + 1 + nI m = nI (104 + 5 * ns + 1 + m) := by
      rw [show nI (104 + 5 * ns) + 1 = nI (104 + 5 * ns + 1) from nI_add _ 1]
      exact nI_add _ _
    unfold zFd
    rw [a1, zkI_s, t_qm_isStopHere_41, zif_n (by omega) (by omega), ztnn (by omega), es, ex, t_qm_cellHere, a2, zkI_s]
    rcases a5 with ⟨rfl, hb⟩ | ⟨rfl, p1, v, L1, -, q1, q2, q3, q4, q5⟩
    · rw [if_pos rfl, if_pos rfl, zkI_s, if_pos rfl]
      exact ⟨0, I1, I1', rfl, rfl, a3.g, a4.g, Or.inl ⟨rfl, hb⟩⟩
    have hv := zbd3 q1 (a := 1) (b := 999) rfl rfl (by omega) (by omega) q4 q5
    have es1 : zsI I1' 6 (104 + 5 * ns + 1 + m) (nI v) 6 (104 + 5 * ns) + 1 = nI (m + 1) := by rw [zsI_no _ _ _ (by omega), a4.1 6 (by decide), es, nI_1]
    rw [if_neg z10, if_neg z10, q2, p_fill (by omega) (by omega), zkV_s, zif_n (by omega) (by omega), ztnn (by omega), zkI_s, if_neg z10, zif_n (by omega) (by omega), zif_n (by omega) (by omega), q3, es1, zsI_at, if_neg (show ¬ nI (m + 1) < (4 : Int32) from fun h => by have := (nI_ltI (b := 4) (by omega) (by omega)).mp h; omega), t_qr_readStop_54, if_neg (show ¬ nI (m + 1) < (4 : Int32) from fun h => by have := (nI_ltI (b := 4) (by omega) (by omega)).mp h; omega)]
    have V' : zSv (121 + 4 * ns) (104 + 5 * ns) (m + 1) (zrI I1 10 (fun i => if 121 + 4 * ns + m ≤ i ∧ i < 121 + 4 * ns + 4 then nI v else I1 10 i) 10) (zsI (zsI I1' 6 (104 + 5 * ns + 1 + m) (nI v)) 6 (104 + 5 * ns) (nI (m + 1)) 6) C0 R0 := zSv_n V (by omega) hv (fun i => by rw [zrI_row, a3.1 10 (by decide)]) (fun i hi => by
      rw [zsI_no _ _ _ hi]
      by_cases q : i = 104 + 5 * ns + 1 + m
      · rw [if_pos q, q, zsI_at]
      · rw [if_neg q, zsI_no _ _ _ q, a4.1 6 (by decide)])
    have L4 : zLx t B 7 8 p1 (zrI I1 10 (fun i => if 121 + 4 * ns + m ≤ i ∧ i < 121 + 4 * ns + 4 then nI v else I1 10 i)) (zsI (zsI I1' 6 (104 + 5 * ns + 1 + m) (nI v)) 6 (104 + 5 * ns) (nI (m + 1))) := zLx_s L1 (zrI_ne _ _ (by decide)) (zrI_ne _ _ (by decide)) (fun k _ => by rw [zsI_ne _ _ _ (by decide), zsI_ne _ _ _ (by decide)]) (by rw [zsI_ne _ _ _ (by decide), zsI_ne _ _ _ (by decide)])
    have gc : zGc I (zrI I1 10 (fun i => if 121 + 4 * ns + m ≤ i ∧ i < 121 + 4 * ns + 4 then nI v else I1 10 i)) := a3.g.tr ⟨fun i _ b => zrI_ne _ _ b, fun _ _ _ _ => by rw [zrI_ne _ _ (by decide)]⟩
    have gm : zGm I' (zsI (zsI I1' 6 (104 + 5 * ns + 1 + m) (nI v)) 6 (104 + 5 * ns) (nI (m + 1))) := (a4.g.tr (zGm.s6 _ _)).tr (zGm.s6 _ _)
    have e4 : zsI (zsI I1' 6 (104 + 5 * ns + 1 + m) (nI v)) 6 (104 + 5 * ns) (nI (m + 1)) 6 (104 + 5 * ns) = nI (m + 1) := zsI_at _ _ _ _
    generalize zsI (zsI I1' 6 (104 + 5 * ns + 1 + m) (nI v)) 6 (104 + 5 * ns) (nI (m + 1)) = K' at *
    generalize zrI I1 10 (fun i => if 121 + 4 * ns + m ≤ i ∧ i < 121 + 4 * ns + 4 then nI v else I1 10 i) = K at *
    have e2 : K' 6 2 = nI ns := by rw [V'.2.2.2 2 (by omega), r2]
    rw [e2, nI_1, zif_n (by omega) (by omega)]
    exact ⟨1, K, _, rfl, rfl, gc, gm.tr (zGm.s6 _ _), Or.inr ⟨rfl, ⟨p1, zLx_s L4 rfl rfl (fun k _ => by rw [zsI_ne _ _ _ (by decide)]) (zsI_ne _ _ _ (by decide))⟩, m + 1, K' 6, by omega, by omega, e4, V', zsI_row _ _ _ _⟩⟩
  | succ d ih =>
    intro m p I I' hm L es V
    obtain ⟨r, I1, I1', a1, a2, a3, a4, a5⟩ := p_number s7 (σ := σ) (J := J) (J' := J') (lo := 1) (hi := 999) L
    have ex : nI (104 + 5 * ns) + 1 + nI m = nI (104 + 5 * ns + 1 + m) := by
      rw [show nI (104 + 5 * ns) + 1 = nI (104 + 5 * ns + 1) from nI_add _ 1]
      exact nI_add _ _
    unfold zFd
    rw [a1, zkI_s, t_qm_isStopHere_41, zif_n (by omega) (by omega), ztnn (by omega), es, ex, t_qm_cellHere, a2, zkI_s]
    rcases a5 with ⟨rfl, hb⟩ | ⟨rfl, p1, v, L1, -, q1, q2, q3, q4, q5⟩
    · rw [if_pos rfl, if_pos rfl, zkI_s, if_pos rfl]
      exact ⟨0, I1, I1', rfl, rfl, a3.g, a4.g, Or.inl ⟨rfl, hb⟩⟩
    have hv := zbd3 q1 (a := 1) (b := 999) rfl rfl (by omega) (by omega) q4 q5
    have es1 : zsI I1' 6 (104 + 5 * ns + 1 + m) (nI v) 6 (104 + 5 * ns) + 1 = nI (m + 1) := by rw [zsI_no _ _ _ (by omega), a4.1 6 (by decide), es, nI_1]
    rw [if_neg z10, if_neg z10, q2, p_fill (by omega) (by omega), zkV_s, zif_n (by omega) (by omega), ztnn (by omega), zkI_s, if_neg z10, zif_n (by omega) (by omega), zif_n (by omega) (by omega), q3, es1, zsI_at, if_pos (show nI (m + 1) < (4 : Int32) from nI_lt (b := 4) (by omega) (by omega)), t_qr_readStop_54, if_pos (show nI (m + 1) < (4 : Int32) from nI_lt (b := 4) (by omega) (by omega))]
    have V' : zSv (121 + 4 * ns) (104 + 5 * ns) (m + 1) (zrI I1 10 (fun i => if 121 + 4 * ns + m ≤ i ∧ i < 121 + 4 * ns + 4 then nI v else I1 10 i) 10) (zsI (zsI I1' 6 (104 + 5 * ns + 1 + m) (nI v)) 6 (104 + 5 * ns) (nI (m + 1)) 6) C0 R0 := zSv_n V (by omega) hv (fun i => by rw [zrI_row, a3.1 10 (by decide)]) (fun i hi => by
      rw [zsI_no _ _ _ hi]
      by_cases q : i = 104 + 5 * ns + 1 + m
      · rw [if_pos q, q, zsI_at]
      · rw [if_neg q, zsI_no _ _ _ q, a4.1 6 (by decide)])
    have L4 : zLx t B 7 8 p1 (zrI I1 10 (fun i => if 121 + 4 * ns + m ≤ i ∧ i < 121 + 4 * ns + 4 then nI v else I1 10 i)) (zsI (zsI I1' 6 (104 + 5 * ns + 1 + m) (nI v)) 6 (104 + 5 * ns) (nI (m + 1))) := zLx_s L1 (zrI_ne _ _ (by decide)) (zrI_ne _ _ (by decide)) (fun k _ => by rw [zsI_ne _ _ _ (by decide), zsI_ne _ _ _ (by decide)]) (by rw [zsI_ne _ _ _ (by decide), zsI_ne _ _ _ (by decide)])
    have gc : zGc I (zrI I1 10 (fun i => if 121 + 4 * ns + m ≤ i ∧ i < 121 + 4 * ns + 4 then nI v else I1 10 i)) := a3.g.tr ⟨fun i _ b => zrI_ne _ _ b, fun _ _ _ _ => by rw [zrI_ne _ _ (by decide)]⟩
    have gm : zGm I' (zsI (zsI I1' 6 (104 + 5 * ns + 1 + m) (nI v)) 6 (104 + 5 * ns) (nI (m + 1))) := (a4.g.tr (zGm.s6 _ _)).tr (zGm.s6 _ _)
    have e4 : zsI (zsI I1' 6 (104 + 5 * ns + 1 + m) (nI v)) 6 (104 + 5 * ns) (nI (m + 1)) 6 (104 + 5 * ns) = nI (m + 1) := zsI_at _ _ _ _
    generalize zsI (zsI I1' 6 (104 + 5 * ns + 1 + m) (nI v)) 6 (104 + 5 * ns) (nI (m + 1)) = K' at *
    generalize zrI I1 10 (fun i => if 121 + 4 * ns + m ≤ i ∧ i < 121 + 4 * ns + 4 then nI v else I1 10 i) = K at *
    have e2 : K' 6 2 = nI ns := by rw [V'.2.2.2 2 (by omega), r2]
    obtain ⟨m1, m2, m3, m4, m5, m6, m7⟩ := id L4
    have hq := zru_le (P := zbl B) (t := t) p1 m5
    have ht := m6.1
    rw [p_atDig s7 m6 m1 m2 (by omega), zkI_s, p_dNext m6 m3 m4 m5, zkI_s]
    have L5 : zLx t B 7 8 (zru (zbl B) t p1) K (zsI K' 0 9 (nI (zru (zbl B) t p1))) := ⟨m1, by rw [zru_id]; exact m2, by rw [zsI_no _ _ _ (by decide)]; exact m3, zsI_at _ _ _ _, hq, by rw [zsI_ne _ _ _ (by decide)]; exact m6, by rw [zsI_no _ _ _ (by decide)]; exact m7⟩
    have g9 : zGm I' (zsI K' 0 9 (nI (zru (zbl B) t p1))) := gm.tr ⟨fun i a _ => zsI_ne _ _ _ a, fun k a _ _ => zsI_no _ _ _ a⟩
    have e6 : zsI K' 0 9 (nI (zru (zbl B) t p1)) 6 = K' 6 := zsI_ne _ _ _ (by decide)
    generalize zsI K' 0 9 (nI (zru (zbl B) t p1)) = K2 at *
    by_cases g : zhr (zdi B) t (zru (zbl B) t p1)
    · rw [if_pos g, if_neg z10, if_neg z10]
      obtain ⟨r, I5, I5', k1, k2, k3, k4, k5⟩ := ih (m + 1) _ K K2 (by omega) L5 (by rw [e6]; exact e4) (by rw [e6]; exact V')
      unfold zFd at k1
      rw [show nI (121 + 4 * ns) + nI (m + 1) = nI (121 + 4 * ns + (m + 1)) from nI_add _ _, show nI (121 + 4 * ns) + 4 = nI (121 + 4 * ns + 4) from nI_add _ 4, nI_1, k1, k2, zif_n (by omega) (by omega)]
      exact ⟨r, I5, I5', rfl, rfl, gc.tr k3, g9.tr k4, k5⟩
    · rw [if_neg g, if_pos rfl, if_pos rfl, e6, e2, nI_1, zif_n (by omega) (by omega)]
      exact ⟨1, K, _, rfl, rfl, gc, g9.tr (zGm.s6 _ _), Or.inr ⟨rfl, ⟨_, zLx_s L5 rfl rfl (fun k _ => by rw [zsI_ne _ _ _ (by decide)]) (zsI_ne _ _ _ (by decide))⟩, m + 1, K' 6, by omega, by omega, e4, V', by rw [zsI_row, e6]⟩⟩
