/-! ===== back to an image ===== -/
set_option maxHeartbeats 4000000 in
theorem o_back {N nb nk ns nr nh t j u : Nat} {σ : zSg} {I I' : zTI} {J J' : zTJ} {x : Int32} (H : zSta nb nk ns nr nh t j u I I') (R : zRu σ I I') (M : zIm σ I I') (B : zBn N σ) : zKe N (qb_back x σ I J) (qm_back x I' J') := by
  obtain ⟨T, G, Rg, hx, x0, n, e7, e8, e25, e5, e6⟩ := id H
  rw [t_qb_back, t_qm_back, p_in2 (a := 0) (b := 3) rfl rfl, zkI_s]
  have bad : zKe N (some (some (.int (-1)), (zSC σ, I, J))) (some (some (.int (-1)), (zSM, I', J'))) := zKe_D R M B (zDo_same (J := J) (J' := J') H ⟨_, rfl, rfl⟩)
  by_cases q0 : x < 0
  · rw [if_pos q0, if_neg (show ¬ (¬ x < 0 ∧ ¬ 3 < x) from fun h => h.1 q0), if_pos rfl]
    exact bad
  by_cases q3 : 3 < x
  · rw [if_neg q0, if_neg (show ¬ x < 4 from fun h => by
      have a := Int32.lt_iff_toInt_lt.mp q3
      have b := Int32.lt_iff_toInt_lt.mp h
      rw [show (3 : Int32).toInt = 3 from rfl] at a
      rw [show (4 : Int32).toInt = 4 from rfl] at b
      omega), if_neg (show ¬ (¬ x < 0 ∧ ¬ 3 < x) from fun h => h.2 q3), if_pos rfl]
    exact bad
  obtain ⟨k, -, hk3, rfl⟩ := zIab (a := 0) (b := 3) rfl rfl (by omega) (by omega) q0 q3
  have hk : k < 4 := by omega
  rw [if_neg q0, if_pos (show nI k < (4 : Int32) from nI_lt (b := 4) hk (by decide)), if_pos (show ¬ nI k < 0 ∧ ¬ 3 < nI k from ⟨q0, q3⟩), if_neg z10, zif_n (by omega) (by omega), ztnn (by omega), zif_n (by omega) (by omega)]
  rcases M.1 k hk with ⟨m1, m2⟩ | ⟨o, m0, m1, m2, m3, m4, m5, m6, nb', nk', ns', nr', nh', m7⟩
  · rw [m1, m2, if_pos rfl, zif_n (by omega) (by omega)]
    exact bad
  · have o3 : (zSC σ)[2]? = some (9, 0, zls [some 3]) := rfl
    have o4 : (zSC σ)[3]? = some (13, 251, zno) := rfl
    obtain ⟨v, b1, b2⟩ := p_bckL (J := J') hk 258 0 (zsI (zsI I' 0 22 (I' 19 k)) 0 25 0) (by omega)
    rw [m0, zrf_so, zrf_so, p_copyG o3 m2 o4 m3, zkV_s, t_qb_forgetActs, zkV_s, show qw_cell 2 0 0 _ _ _ = _ from p_cellk w2 (y := 0) (a := 0) (k := 0) rfl (by omega) _ _ _, zkI_s, zif_n (by omega) (by omega), m4, if_neg z10, zif_n (by omega) (by omega), show qm_back_40 (nI k) 0 _ J' = _ from b1]
    have cp : ∀ i, i < 251 → va_cpy (I (o + 1)) (I 3) 0 0 251 i = I (o + 1) i := fun i hi => by rw [zva_in (by omega), show 0 + (i - 0) = i by omega]
    have ev : zsI (zrI I 3 (va_cpy (I (o + 1)) (I 3) 0 0 251)) 0 8 0 3 (0 + 0) = v := by
      rw [zsI_ne _ _ _ (by decide), zrI_row, cp _ (by omega), b2, if_pos (by omega), zsI_ne _ _ _ (by decide), zsI_ne _ _ _ (by decide)]
      exact m7.1.2.2.2.1
    have e18 : zsI (zsI I' 0 22 (I' 19 k)) 0 25 0 18 = I' 18 := by rw [zsI_ne _ _ _ (by decide), zsI_ne _ _ _ (by decide)]
    rw [ev, e18]
    have rr : ∀ i k', i ≠ 0 → i ≠ 10 → zrI (zsI (zsI I' 0 22 (I' 19 k)) 0 25 0) 10 (fun i => if 0 ≤ i ∧ i < 258 then I' 18 (258 * k + i) else zsI (zsI I' 0 22 (I' 19 k)) 0 25 0 10 i) i k' = I' i k' := fun i k' a1 a2 => by rw [zrI_ne _ _ a2, zsI_ne _ _ _ a1, zsI_ne _ _ _ a1]
    have r0 : ∀ k', k' ≠ 22 → k' ≠ 25 → zrI (zsI (zsI I' 0 22 (I' 19 k)) 0 25 0) 10 (fun i => if 0 ≤ i ∧ i < 258 then I' 18 (258 * k + i) else zsI (zsI I' 0 22 (I' 19 k)) 0 25 0 10 i) 0 k' = I' 0 k' := fun k' a1 a2 => by rw [zrI_ne _ _ (by decide), zsI_no _ _ _ a2, zsI_no _ _ _ a1]
    have r22 : zrI (zsI (zsI I' 0 22 (I' 19 k)) 0 25 0) 10 (fun i => if 0 ≤ i ∧ i < 258 then I' 18 (258 * k + i) else zsI (zsI I' 0 22 (I' 19 k)) 0 25 0 10 i) 0 22 = I' 19 k := by rw [zrI_ne _ _ (by decide), zsI_no _ _ _ (by decide), zsI_at]
    have r25 : zrI (zsI (zsI I' 0 22 (I' 19 k)) 0 25 0) 10 (fun i => if 0 ≤ i ∧ i < 258 then I' 18 (258 * k + i) else zsI (zsI I' 0 22 (I' 19 k)) 0 25 0 10 i) 0 25 = 0 := by rw [zrI_ne _ _ (by decide), zsI_at]
    have r10 : ∀ i, i < 258 → zrI (zsI (zsI I' 0 22 (I' 19 k)) 0 25 0) 10 (fun i => if 0 ≤ i ∧ i < 258 then I' 18 (258 * k + i) else zsI (zsI I' 0 22 (I' 19 k)) 0 25 0 10 i) 10 i = I' 18 (258 * k + i) := fun i hi => by rw [zrI_row, if_pos (by omega)]
    generalize zrI (zsI (zsI I' 0 22 (I' 19 k)) 0 25 0) 10 (fun i => if 0 ≤ i ∧ i < 258 then I' 18 (258 * k + i) else zsI (zsI I' 0 22 (I' 19 k)) 0 25 0 10 i) = I1' at rr r0 r22 r25 r10 ⊢
    have ri : ∀ i, i ≠ 0 → i ≠ 10 → I1' i = I' i := fun i a1 a2 => funext fun k' => rr i k' a1 a2
    have c3 : ∀ i, i < 251 → zsI (zrI I 3 (va_cpy (I (o + 1)) (I 3) 0 0 251)) 0 8 0 3 i = I (o + 1) i := fun i hi => by rw [zsI_ne _ _ _ (by decide), zrI_row, cp _ hi]
    have c0 : ∀ k', k' ≠ 8 → zsI (zrI I 3 (va_cpy (I (o + 1)) (I 3) 0 0 251)) 0 8 0 0 k' = I 0 k' := fun k' h => by rw [zsI_no _ _ _ h, zrI_ne _ _ (by decide)]
    have c8 : zsI (zrI I 3 (va_cpy (I (o + 1)) (I 3) 0 0 251)) 0 8 0 0 8 = 0 := zsI_at _ _ _ _
    have ci : ∀ i, i ≠ 0 → i ≠ 3 → zsI (zrI I 3 (va_cpy (I (o + 1)) (I 3) 0 0 251)) 0 8 0 i = I i := fun i a1 a2 => by rw [zsI_ne _ _ _ a1, zrI_ne _ _ a2]
    generalize zsI (zrI I 3 (va_cpy (I (o + 1)) (I 3) 0 0 251)) 0 8 0 = I1 at c3 c0 c8 ci ⊢
    refine ⟨_, _, _, rfl, rfl, σ, I1, J, I1', J', nb', nk', ns', nr', nh', t, j, 0, rfl, rfl, ⟨?_, ?_, ⟨Rg.1, by omega, fun i hi => by omega⟩, ?_, ?_, ?_, ?_, ?_, ?_, ?_, ?_⟩, zRu_c (a := σ.1) (b := σ.2.1) R (fun i hi => ci i (by omega) (by omega)) (c0 5 (by decide)) (fun i hi => ri i (by omega) (by omega)) (r0 2 (by decide) (by decide)), zIm_c (a := σ.1) (b := σ.2.1) M (fun i hi => ci i (by omega) (by omega)) (fun i hi => ri i (by omega) (by omega)), zBn_s B rfl⟩
    · obtain ⟨t1, t2, t3, t4⟩ := T
      refine ⟨by rw [c0 1 (by decide)]; exact t1, by rw [r0 1 (by decide) (by decide)]; exact t2, t3, fun i hi => ?_⟩
      rw [ci 1 (by decide) (by decide), ri 1 (by decide) (by decide)]
      exact t4 i hi
    · exact zGood_cong m7 (fun i hi _ => c3 i hi) (fun i hi => r10 i hi)
    · rw [c3 83 (by omega), r22]
      exact m5
    · rw [r22]
      exact m6
    · rw [r0 23 (by decide) (by decide)]
      exact n
    · rw [c0 7 (by decide)]
      exact e7
    · exact c8
    · exact r25
    · rw [c0 5 (by decide), r0 2 (by decide) (by decide)]
      exact e5
    · rw [ci 25 (by decide) (by decide)]
      exact e6
