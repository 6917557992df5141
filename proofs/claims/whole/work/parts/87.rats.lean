/-! ===== a voyage: the weather, the rats ===== -/
theorem p_keepL {J : zTJ} : ∀ (d k : Nat) (I : zTI), k + d = 258 → qm_keeps_2 (nI k) I J = some (none, (zSM, zrI I 17 (fun i => if k ≤ i ∧ i < 258 then I 10 i else I 17 i), J))
  | 0, k, I, hk => by
    rw [t_qm_keeps_2, if_neg (show ¬ nI k < (258 : Int32) from fun q => by have := (nI_ltI (b := 258) (by omega) (by decide)).mp q; omega)]
    rw [zrI_id]
    funext j
    rw [if_neg (by omega)]
  | d + 1, k, I, hk => by
    rw [t_qm_keeps_2, if_pos (show nI k < (258 : Int32) from nI_lt (b := 258) (by omega) (by decide)), zif_n (by omega) (by omega), zif_n (by omega) (by omega), ztnn (by omega), nI_1, p_keepL d (k + 1) _ (by omega)]
    rw [zrI_eq (I := I) (I1 := zsI I 17 k (I 10 k)) (g := fun i => if k ≤ i ∧ i < 258 then I 10 i else I 17 i) (fun i q => zsI_ne _ _ _ q) ?_]
    funext i
    rw [zsI_ne (b := 10) _ _ _ (by decide)]
    by_cases q : i = k
    · subst q
      rw [if_neg (by omega), zsI_at, if_pos (by omega)]
    · rw [zsI_no _ _ _ q]
      by_cases q2 : k + 1 ≤ i ∧ i < 258
      · rw [if_pos q2, if_pos (by omega)]
      · rw [if_neg q2, if_neg (by omega)]
theorem p_putL {J : zTJ} : ∀ (d k : Nat) (I : zTI), k + d = 258 → qm_putsBack_2 (nI k) I J = some (none, (zSM, zrI I 10 (fun i => if k ≤ i ∧ i < 258 then I 17 i else I 10 i), J))
  | 0, k, I, hk => by
    rw [t_qm_putsBack_2, if_neg (show ¬ nI k < (258 : Int32) from fun q => by have := (nI_ltI (b := 258) (by omega) (by decide)).mp q; omega)]
    rw [zrI_id]
    funext j
    rw [if_neg (by omega)]
  | d + 1, k, I, hk => by
    rw [t_qm_putsBack_2, if_pos (show nI k < (258 : Int32) from nI_lt (b := 258) (by omega) (by decide)), zif_n (by omega) (by omega), zif_n (by omega) (by omega), ztnn (by omega), nI_1, p_putL d (k + 1) _ (by omega)]
    rw [zrI_eq (I := I) (I1 := zsI I 10 k (I 17 k)) (g := fun i => if k ≤ i ∧ i < 258 then I 17 i else I 10 i) (fun i q => zsI_ne _ _ _ q) ?_]
    funext i
    rw [zsI_ne (b := 17) _ _ _ (by decide)]
    by_cases q : i = k
    · subst q
      rw [if_neg (by omega), zsI_at, if_pos (by omega)]
    · rw [zsI_no _ _ _ q]
      by_cases q2 : k + 1 ≤ i ∧ i < 258
      · rw [if_pos q2, if_pos (by omega)]
      · rw [if_neg q2, if_neg (by omega)]
/-- a lot is drawn, or a voyage counted -/
theorem zJv_x {nb nk ns nr nh c b tt q cq lq sq : Nat} {sh : List zE} {L : List Nat} {nc : Nat} {kd shf ss ts te : Nat → Nat} {dl da : Int32} {I0 I I'0 I' : zTI} (V : zJv nb nk ns nr nh c b tt q cq lq sq sh L nc kd shf ss ts te dl da I0 I I'0 I') (k : Nat) (hk : k = 6 ∨ k = 9) (v : Int32) : zJv nb nk ns nr nh c b tt q cq lq sq sh L nc kd shf ss ts te dl da (zsI I0 15 k v) (zsI I 15 k v) I'0 I' := by
  obtain ⟨v1, v2, v3, v4, ⟨v5, v5'⟩, v6, v7, v8, v9, v10, d1, d2, d3, d4, d5⟩ := V
  refine ⟨?_, ?_, v3, zRl_c v4 (zsI_ne _ _ _ d2) (zsI_ne _ _ _ d4) rfl rfl rfl, ⟨?_, ?_⟩, fun i a1 a2 => ?_, fun k' hk' => ?_, ?_, v9, v10, d1, d2, d3, d4, d5⟩
  · rw [zsI_ne _ _ _ d5]
    exact v1
  · rw [zsI_no _ _ _ (by omega)]
    exact v2
  · rw [zsI_no _ _ _ (by omega)]
    exact v5
  · rw [zsI_no _ _ _ (by omega)]
    exact v5'
  · rw [zsI_ne _ _ _ a2, zsI_ne _ _ _ a2, v6 i a1 a2]
  · by_cases h : k' = k
    · subst h
      rw [zsI_at, zsI_at]
    · rw [zsI_no _ _ _ h, zsI_no _ _ _ h, v7 k' hk']
  · rw [zsI_ne _ _ _ d5, zsI_ne _ _ _ d5, v8]
set_option maxHeartbeats 4000000 in
theorem p_gnaw {w c q : Nat} (hwc : zwc w c) {ρ : (Nat → Option Nat) × (Nat → Option Nat) × List zE} {nb nk ns nr nh b tt cq lq sq : Nat} {L : List Nat} {nc : Nat} {kd shf ss ts te : Nat → Nat} {dl da : Int32} {I0 I I'0 I' : zTI} {J J' : zTJ} {X : Nat} (hb : b < nb) (V : zJv nb nk ns nr nh c b tt q cq lq sq (zSC (some w, some q, ρ)) L nc kd shf ss ts te dl da I0 I I'0 I') (hX : X < 2147483648) (e6 : I 15 6 = nI X) (e35 : J' 0 35 = zn6 X) : ∃ I0' I1 I1' J1' X1, qj_gnaw (some w, some q, ρ) I J = some (none, (zSC (some w, some q, ρ), I1, J)) ∧ (if (I' 10 1) = 0 then (some (none, (zSM, I', J'))) else (zkI (qm_draw (I' 10 1) I' J') zSM (fun r19 I17 J18 => (zkI (qm_isAboard r19 (nI b) I17 J18) zSM (fun r22 I20 J21 => (if r22 = 0 then (some (none, (zSM, I20, J21))) else (zkI (qm_bookOf r19 0 I20 J21) zSM (fun r25 I23 J24 => (if (1 : Int32) < r25 then (zif (zin (20 + (7 * r19)) 258) (zif (zin (20 + (7 * r19)) 258) (some (none, (zSM, (zsI I23 10 ((20 + (7 * r19)).toNatClampNeg) ((I23 10 ((20 + (7 * r19)).toNatClampNeg)) - 1)), J24))))) else (some (none, (zSM, I23, J24)))))))))))) = some (none, (zSM, I1', J1')) ∧ zJv nb nk ns nr nh c b tt q cq lq sq (zSC (some w, some q, ρ)) L nc kd shf ss ts te dl da I0' I1 I'0 I1' ∧ ((∀ i, i ≠ 15 → I0' i = I0 i) ∧ I0' 15 9 = I0 15 9) ∧ X1 < 2147483648 ∧ I1 15 6 = nI X1 ∧ J1' 0 35 = zn6 X1 := by
  obtain ⟨v1, v2, v3, v4, ⟨v5, v5'⟩, v6, v7, v8, v9, v10, d1, d2, d3, d4, d5⟩ := id V
  obtain ⟨⟨n0, n1, n2, n3, n4⟩, ⟨s0, s1, s2, s3, s4⟩, ⟨c0, c1, c2, c3, c4⟩, cD, hBg, hK, -⟩ := id v1.1
  rw [t_qj_gnaw w c q hwc, c1, s1]
  by_cases q0 : nk = 0
  · subst q0
    rw [if_neg (show ¬ (0 : Int32) < nI 0 by decide), if_pos (show nI 0 = (0 : Int32) from rfl)]
    exact ⟨I0, I, I', J', X, rfl, rfl, V, ⟨fun _ _ => rfl, rfl⟩, hX, e6, e35⟩
  · have q1 : ¬ nI nk = 0 := fun e => q0 (znI (b := 0) (by omega) (by decide) e)
    have hl := zlot_lt X
    have hk : zlot X / 65536 % nk < nk := Nat.mod_lt _ (by omega)
    have V1 := zJv_x V 6 (Or.inl rfl) (nI (zlot X))
    rw [if_pos (show (0 : Int32) < nI nk from nI_lt (a := 0) (by omega) (by omega)), if_neg q1, p_drawC hwc hX e6, zkI_s, if_neg q1, zI_modn (by omega) (by omega), p_drawM hX e35 (by omega) (by omega), zkI_s]
    generalize zlot X / 65536 % nk = k at hk ⊢
    have ic : zsI I 15 6 (nI (zlot X)) c = I c := zsI_ne _ _ _ d5
    obtain ⟨k0, -, -, -, k4, -⟩ := hK k hk
    have fr : (∀ i, i ≠ 15 → zsI I0 15 6 (nI (zlot X)) i = I0 i) ∧ zsI I0 15 6 (nI (zlot X)) 15 9 = I0 15 9 := ⟨fun i hi => zsI_ne _ _ _ hi, zsI_no _ _ _ (by decide)⟩
    have ex : zsI I 15 6 (nI (zlot X)) 15 6 = nI (zlot X) := zsI_at _ _ _ _
    have ey : zsJ J' 0 35 (zn6 (zlot X)) 0 35 = zn6 (zlot X) := zsJ_at _ _ _ _
    rw [p_bargeOfW hwc (by rw [ic]; exact c1) n1 hk, zkI_s, V1.2.1, ic, k4, p_isAboard (by omega), zkI_s]
    by_cases qa : I' 10 (20 + 7 * k + 4) = 100 + nI b
    · rw [if_pos ((zbw_eq (by omega)).mpr qa), if_pos qa, if_neg z10, pc97 hwc (by omega), zkI_s, pb0 (by omega), zkI_s, ic, k0]
      obtain ⟨d, hd1, hd2, ed⟩ := zk_b0 v1.1.ns v1.2.1 hk
      by_cases qd : (1 : Int32) < I' 10 (20 + 7 * k + 0)
      · have hd : 1 < d := by
          rw [ed] at qd
          exact (nI_ltI (a := 1) (by decide) (by omega)).mp qd
        have e20 : (20 : Int32) + 7 * nI k = nI (20 + 7 * k + 0) := by rw [← zxb0, z_add0]
        rw [if_pos qd, if_pos qd, zy97, zif_n (by omega) (by omega), zif_n (by omega) (by omega), ztnn (by omega), e20, zif_n (by omega) (by omega), zif_n (by omega) (by omega), ztnn (by omega), k0, ed, show nI d - 1 = nI (d - 1) from z_sub1 (k := 1) (by omega), zsI_zrI _ c, zsI_zrI _ 10]
        have G5 : zGood nb nk ns nr nh (upd (zsI I 15 6 (nI (zlot X)) c) (97 + k) (nI (d - 1))) (upd (I' 10) (20 + 7 * k + 0) (nI (d - 1))) := by
          rw [ic]
          exact zGood_upd v1 (Or.inr (Or.inr (Or.inl ⟨k, hk, by omega⟩))) (zBd_weight v1.1.ns hk ⟨d - 1, by omega, by omega, rfl⟩) (zAb_no v1.2.2.1 n0 n1 (fun _ _ => by omega) (fun _ _ => by omega))
        refine ⟨_, _, _, _, zlot X, rfl, rfl, zJv_r V1 G5 (by rw [u_no (by omega)]), fr, hl, ?_, ey⟩
        rw [zrI_ne _ _ (fun h => d5 h.symm)]
        exact ex
      · rw [if_neg qd, if_neg qd]
        exact ⟨_, _, _, _, zlot X, rfl, rfl, V1, fr, hl, ex, ey⟩
    · rw [if_neg (fun h => qa ((zbw_eq (by omega)).mp h)), if_neg qa, if_pos rfl]
      exact ⟨_, _, _, _, zlot X, rfl, rfl, V1, fr, hl, ex, ey⟩
