/-! ===== a river: the clause of a reader ===== -/
theorem zsb1 {v n : Nat} (hv : v < 100000) (hn : n ≤ 100) (h : ¬ nI n - 1 < nI v) : v < n := by
  rcases Nat.eq_zero_or_pos n with rfl | h0
  · exact absurd (show nI 0 - 1 < nI v by
      rw [show nI 0 - 1 = (-1 : Int32) by decide, Int32.lt_iff_toInt_lt, nI_toInt (by omega), show (-1 : Int32).toInt = -1 by decide]
      omega) h
  · rw [show nI n - 1 = nI (n - 1) from z_sub1 (k := 1) (by omega)] at h
    have : ¬ n - 1 < v := fun h' => h (nI_lt h' (by omega))
    omega
theorem p_rdL {J : zTJ} {nr : Nat} (hr : nr < 6) : ∀ (d k : Nat) (I : zTI), k + d = 12 → I 6 3 = nI nr → qm_isReaderHere_100 (nI k) I J = some (some (.int 1), (zSM, zsI (zrI I 6 (fun i => if 174 + 12 * nr + k ≤ i ∧ i < 174 + 12 * nr + 12 then 0 else I 6 i)) 6 3 (nI (nr + 1)), J))
  | 0, k, I, hk, e => by
    rw [t_qm_isReaderHere_100, if_neg (show ¬ nI k < (12 : Int32) from fun q => by have := (nI_ltI (b := 12) (by omega) (by decide)).mp q; omega), e, nI_1, zrI_id]
    funext i
    rw [if_neg (by omega)]
  | d + 1, k, I, hk, e => by
    have e0 : (174 : Int32) + 12 * nI nr + nI k = nI (174 + 12 * nr + k) := by
      rw [show (12 : Int32) = nI 12 from rfl, zI_muln (by omega) (by omega) (by omega), show (174 : Int32) + nI (12 * nr) = nI (174 + 12 * nr) from nI_add 174 _]
      exact nI_add _ _
    rw [t_qm_isReaderHere_100, if_pos (show nI k < (12 : Int32) from nI_lt (b := 12) (by omega) (by decide)), e, e0, zif_n (by omega) (by omega), ztnn (by omega), nI_1, p_rdL hr d (k + 1) _ (by omega) (by rw [zsI_no _ _ _ (by omega)]; exact e)]
    rw [zrI_eq (I := I) (I1 := zsI I 6 (174 + 12 * nr + k) 0) (g := fun i => if 174 + 12 * nr + k ≤ i ∧ i < 174 + 12 * nr + 12 then 0 else I 6 i) (fun i q => zsI_ne _ _ _ q) ?_]
    funext i
    by_cases q : i = 174 + 12 * nr + k
    · subst q
      rw [if_neg (by omega), zsI_at, if_pos (by omega)]
    · rw [zsI_no _ _ _ q]
      by_cases q2 : 174 + 12 * nr + (k + 1) ≤ i ∧ i < 174 + 12 * nr + 12
      · rw [if_pos q2, if_pos (by omega)]
      · rw [if_neg q2, if_neg (by omega)]
theorem zGm.r6 {I : zTI} (f : Nat → Int32) : zGm I (zrI I 6 f) := ⟨fun i _ b => zrI_ne _ _ b, fun _ _ _ _ => by rw [zrI_ne _ _ (by decide)]⟩
set_option maxHeartbeats 4000000 in
theorem p_reader2 {σ : zSg} {I I' : zTI} {J J' : zTJ} {t p ns nr : Nat} {B : Nat → Nat} (L : zLx t B 7 8 p I I') (hn : nr < 6) (hs : ns ≤ 8) (c2 : I 10 86 = nI ns) (r2 : I' 6 2 = nI ns) (c3 : I 10 87 = nI nr) (r3 : I' 6 3 = nI nr) : ∃ r I1 I1', qr_readReader σ I J = some (some (.int r), (zSC σ, I1, J)) ∧ (zkI (qm_cellHere (144 + (5 * (I' 6 3))) 0 ((I' 6 2) - 1) I' J') zSM (fun r8 I6 J7 => (if r8 = 0 then (some (some (.int 0), (zSM, I6, J7))) else (zkI (qm_cellHere ((144 + (5 * (I' 6 3))) + 1) 0 9 I6 J7) zSM (fun r11 I9 J10 => (if r11 = 0 then (some (some (.int 0), (zSM, I9, J10))) else (zkI (qm_cellHere ((144 + (5 * (I' 6 3))) + 2) 1 99 I9 J10) zSM (fun r14 I12 J13 => (if r14 = 0 then (some (some (.int 0), (zSM, I12, J13))) else (zif (zin ((144 + (5 * (I' 6 3))) + 3) 258) (zif (zin ((144 + (5 * (I' 6 3))) + 4) 258) (qm_isReaderHere_100 0 (zsI (zsI I12 6 (((144 + (5 * (I' 6 3))) + 3).toNatClampNeg) (-1)) 6 (((144 + (5 * (I' 6 3))) + 4).toNatClampNeg) 0) J13)))))))))))) = some (some (.int r), (zSM, I1', J')) ∧ zOut t B I I' r I1 I1' (∃ v0 v1 v2, v0 < ns ∧ v1 ≤ 9 ∧ (1 ≤ v2 ∧ v2 ≤ 99) ∧ I1 10 = upd (upd (upd (upd (I 10) 87 (nI (nr + 1))) (153 + nr) (nI v0)) (159 + nr) (nI v1)) (165 + nr) (nI v2) ∧ I1' 6 = upd (fun i => if 174 + 12 * nr + 0 ≤ i ∧ i < 174 + 12 * nr + 12 then 0 else upd (upd (upd (upd (upd (I' 6) (144 + 5 * nr + 0) (nI v0)) (144 + 5 * nr + 1) (nI v1)) (144 + 5 * nr + 2) (nI v2)) (144 + 5 * nr + 3) (-1)) (144 + 5 * nr + 4) 0 i) 3 (nI (nr + 1))) := by
  have e6 : (144 : Int32) + 5 * nI nr = nI (144 + 5 * nr + 0) := by
    rw [show (5 : Int32) = nI 5 from rfl, zI_muln (by omega) (by omega) (by omega)]
    exact nI_add 144 _
  have L0 : zLx t B 7 8 p (zsI I 10 87 (nI (nr + 1))) I' := zLx_s L (zsI_ne _ _ _ (by decide)) (zsI_ne _ _ _ (by decide)) (fun _ _ => rfl) rfl
  have f0 : zGc I (zsI I 10 87 (nI (nr + 1))) := zGc.s10 87 _
  rw [t_qr_readReader, c3, nI_1, c2, r2, r3, e6, show (153 : Int32) + nI nr = nI (153 + nr) from nI_add 153 nr, show (159 : Int32) + nI nr = nI (159 + nr) from nI_add 159 nr, show (165 : Int32) + nI nr = nI (165 + nr) from nI_add 165 nr, show nI (144 + 5 * nr + 0) + 1 = nI (144 + 5 * nr + 1) from nI_add _ 1, show nI (144 + 5 * nr + 0) + 2 = nI (144 + 5 * nr + 2) from nI_add _ 2, show nI (144 + 5 * nr + 0) + 3 = nI (144 + 5 * nr + 3) from nI_add _ 3, show nI (144 + 5 * nr + 0) + 4 = nI (144 + 5 * nr + 4) from nI_add _ 4]
  obtain ⟨r, I1, I1', a1, a2, a3, a4, a5⟩ := p_into (σ := σ) (J := J) (J' := J') (lo := 0) (hi := nI ns - 1) (x := 153 + nr) (y := 144 + 5 * nr + 0) L0 (by omega) (by omega)
  rw [a1, zkI_s, a2, zkI_s]
  rcases a5 with ⟨rfl, hb⟩ | ⟨rfl, p1, v0, L1, -, q1, q2, q3, -, -, q4, q5⟩
  · rw [if_pos rfl, if_pos rfl]
    exact ⟨0, I1, I1', rfl, rfl, f0.tr a3, a4, Or.inl ⟨rfl, hb⟩⟩
  rw [if_neg z10, if_neg z10]
  obtain ⟨r, I2, I2', b1, b2, b3, b4, b5⟩ := p_into (σ := σ) (J := J) (J' := J') (lo := 0) (hi := 9) (x := 159 + nr) (y := 144 + 5 * nr + 1) L1 (by omega) (by omega)
  rw [b1, zkI_s, b2, zkI_s]
  rcases b5 with ⟨rfl, hb⟩ | ⟨rfl, p2, v1, L2, -, w1, w2', w3, -, -, w4, w5⟩
  · rw [if_pos rfl, if_pos rfl]
    exact ⟨0, I2, I2', rfl, rfl, (f0.tr a3).tr b3, a4.tr b4, Or.inl ⟨rfl, hb⟩⟩
  rw [if_neg z10, if_neg z10]
  obtain ⟨r, I3, I3', d1, d2, d3, d4, d5⟩ := p_into (σ := σ) (J := J) (J' := J') (lo := 1) (hi := 99) (x := 165 + nr) (y := 144 + 5 * nr + 2) L2 (by omega) (by omega)
  rw [d1, zkI_s, d2, zkI_s]
  rcases d5 with ⟨rfl, hb⟩ | ⟨rfl, p3, v2, L3, -, u1, u2, u3, -, -, u4, u5⟩
  · rw [if_pos rfl, if_pos rfl]
    exact ⟨0, I3, I3', rfl, rfl, ((f0.tr a3).tr b3).tr d3, (a4.tr b4).tr d4, Or.inl ⟨rfl, hb⟩⟩
  rw [if_neg z10, if_neg z10, zif_n (by omega) (by omega), zif_n (by omega) (by omega), ztnn (by omega), ztnn (by omega)]
  have e3 : zsI (zsI I3' 6 (144 + 5 * nr + 3) (-1)) 6 (144 + 5 * nr + 4) 0 6 3 = nI nr := by
    rw [zsI_no _ _ _ (by omega), zsI_no _ _ _ (by omega), u3, u_no (by omega), w3, u_no (by omega), q3, u_no (by omega), r3]
  rw [show qm_isReaderHere_100 0 _ J' = _ from p_rdL hn 12 0 _ (by omega) e3]
  refine ⟨1, _, _, rfl, rfl, ((f0.tr a3).tr b3).tr d3, ((((((a4.tr b4).tr d4).tr (zGm.s6 _ _)).tr (zGm.s6 _ _)).tr (zGm.r6 _)).tr (zGm.s6 _ _)), Or.inr ⟨rfl, ⟨p3, zLx_s L3 rfl rfl (fun k _ => ?_) ?_⟩, v0, v1, v2, zsb1 q1 (by omega) q5, (zbd3 w1 (a := 0) (b := 9) rfl rfl (by omega) (by omega) w4 w5).2, zbd3 u1 rfl rfl (by omega) (by omega) u4 u5, ?_, ?_⟩⟩
  · rw [zsI_ne _ _ _ (by decide), zrI_ne _ _ (by decide), zsI_ne _ _ _ (by decide), zsI_ne _ _ _ (by decide)]
  · rw [zsI_ne _ _ _ (by decide), zrI_ne _ _ (by decide), zsI_ne _ _ _ (by decide), zsI_ne _ _ _ (by decide)]
  · rw [u2, w2', q2, zsI_row]
  · rw [zsI_row, zrI_row, zsI_row, zsI_row, u3, w3, q3]
