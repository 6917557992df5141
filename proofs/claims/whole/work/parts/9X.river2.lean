/-! ===== river keeps the relation ===== -/
set_option maxHeartbeats 16000000 in
theorem o_river {N nb nk ns nr nh t j u : Nat} {σ : zSg} {I I' : zTI} {J J' : zTJ} (H : zSta nb nk ns nr nh t j u I I') (R : zRu σ I I') (M : zIm σ I I') (Bn : zBn N σ) : zKe N (qb_river σ I J) (qm_river I' J') := by
  obtain ⟨T, G, Rg, x, x0, n, e7, e8, e25, e5, e6⟩ := id H
  obtain ⟨B, TX⟩ := zTxt_of T
  have ht := TX.1
  obtain ⟨I1, a1, a2, a3, a4, a5, a6, a7⟩ := p_open s7 (σ := σ) (J := J) TX
  rw [t_qb_river, T.1, t_qr_parse, a1, zkV_s, t_qa_fill_53178, zal_s (k := 13) (n := 251) (rf := zno) rfl rfl, show qa_fill_53178_5 10 0 0 (Int32.ofNat 251) (zSC σ) I1 J = _ from p_fillA 251 0 I1 (by omega), zkV_s]
  rw [t_qm_river, show qm_river_8 0 (zsI I' 0 12 6) J' = _ from p_riv8 6 0 _ (by omega), t_qm_readsAll]
  have l12 : zsI (zrI (zsI I' 0 12 6) 6 (fun i => if 0 ≤ i ∧ i < 6 then 0 else zsI I' 0 12 6 6 i)) 0 8 1 0 12 = 6 := by rw [zsI_no _ _ _ (by decide), zrI_ne _ _ (by decide), zsI_at]
  rw [l12, zif_t (show zin 6 7 = true by decide), show (6 : Int32).toNatClampNeg = 6 by decide]
  have f0 : ∀ k, k ≠ 8 → k ≠ 9 → k ≠ 10 → k ≠ 12 → k ≠ 13 → k ≠ 15 → zsI (zsI (zsI (zsI (zsI (zsI (zrI (zsI I' 0 12 6) 6 (fun i => if 0 ≤ i ∧ i < 6 then 0 else zsI I' 0 12 6 6 i)) 0 8 1) 3 6 0) 0 15 0) 0 9 0) 0 10 0) 0 13 0 0 k = I' 0 k := fun k h8 h9 h10 h12 h13 h15 => by
    rw [zsI_no _ _ _ h13, zsI_no _ _ _ h10, zsI_no _ _ _ h9, zsI_no _ _ _ h15, zsI_ne _ _ _ (by decide), zsI_no _ _ _ h8, zrI_ne _ _ (by decide), zsI_no _ _ _ h12]
  have f1 : ∀ i, i ≠ 0 → i ≠ 3 → i ≠ 6 → zsI (zsI (zsI (zsI (zsI (zsI (zrI (zsI I' 0 12 6) 6 (fun i => if 0 ≤ i ∧ i < 6 then 0 else zsI I' 0 12 6 6 i)) 0 8 1) 3 6 0) 0 15 0) 0 9 0) 0 10 0) 0 13 0 i = I' i := fun i h0 h3 h6 => by
    rw [zsI_ne _ _ _ h0, zsI_ne _ _ _ h0, zsI_ne _ _ _ h0, zsI_ne _ _ _ h0, zsI_ne _ _ _ h3, zsI_ne _ _ _ h0, zrI_ne _ _ h6, zsI_ne _ _ _ h0]
  have f9 : zsI (zsI (zsI (zsI (zsI (zsI (zrI (zsI I' 0 12 6) 6 (fun i => if 0 ≤ i ∧ i < 6 then 0 else zsI I' 0 12 6 6 i)) 0 8 1) 3 6 0) 0 15 0) 0 9 0) 0 10 0) 0 13 0 0 9 = 0 := by
    rw [zsI_no _ _ _ (by decide), zsI_no _ _ _ (by decide), zsI_at]
  have f10 : zsI (zsI (zsI (zsI (zsI (zsI (zrI (zsI I' 0 12 6) 6 (fun i => if 0 ≤ i ∧ i < 6 then 0 else zsI I' 0 12 6 6 i)) 0 8 1) 3 6 0) 0 15 0) 0 9 0) 0 10 0) 0 13 0 0 10 = 0 := by
    rw [zsI_no _ _ _ (by decide), zsI_at]
  have f15 : zsI (zsI (zsI (zsI (zsI (zsI (zrI (zsI I' 0 12 6) 6 (fun i => if 0 ≤ i ∧ i < 6 then 0 else zsI I' 0 12 6 6 i)) 0 8 1) 3 6 0) 0 15 0) 0 9 0) 0 10 0) 0 13 0 0 15 = 0 := by
    rw [zsI_no _ _ _ (by decide), zsI_no _ _ _ (by decide), zsI_no _ _ _ (by decide), zsI_at]
  have f8 : zsI (zsI (zsI (zsI (zsI (zsI (zrI (zsI I' 0 12 6) 6 (fun i => if 0 ≤ i ∧ i < 6 then 0 else zsI I' 0 12 6 6 i)) 0 8 1) 3 6 0) 0 15 0) 0 9 0) 0 10 0) 0 13 0 0 8 = 1 := by
    rw [zsI_no _ _ _ (by decide), zsI_no _ _ _ (by decide), zsI_no _ _ _ (by decide), zsI_no _ _ _ (by decide), zsI_ne _ _ _ (by decide), zsI_at]
  have f12 : zsI (zsI (zsI (zsI (zsI (zsI (zrI (zsI I' 0 12 6) 6 (fun i => if 0 ≤ i ∧ i < 6 then 0 else zsI I' 0 12 6 6 i)) 0 8 1) 3 6 0) 0 15 0) 0 9 0) 0 10 0) 0 13 0 0 12 = 6 := by
    rw [zsI_no _ _ _ (by decide), zsI_no _ _ _ (by decide), zsI_no _ _ _ (by decide), zsI_no _ _ _ (by decide), zsI_ne _ _ _ (by decide)]
    exact l12
  have f6 : ∀ i, i < 6 → zsI (zsI (zsI (zsI (zsI (zsI (zrI (zsI I' 0 12 6) 6 (fun i => if 0 ≤ i ∧ i < 6 then 0 else zsI I' 0 12 6 6 i)) 0 8 1) 3 6 0) 0 15 0) 0 9 0) 0 10 0) 0 13 0 6 i = 0 := fun i hi => by
    rw [zsI_ne _ _ _ (by decide), zsI_ne _ _ _ (by decide), zsI_ne _ _ _ (by decide), zsI_ne _ _ _ (by decide), zsI_ne _ _ _ (by decide), zsI_ne _ _ _ (by decide), zrI_row, if_pos (by omega)]
  generalize zsI (zsI (zsI (zsI (zsI (zsI (zrI (zsI I' 0 12 6) 6 (fun i => if 0 ≤ i ∧ i < 6 then 0 else zsI I' 0 12 6 6 i)) 0 8 1) 3 6 0) 0 15 0) 0 9 0) 0 10 0) 0 13 0 = K at *
  have g10 : ∀ i, i < 251 → zrI I1 10 (fun i => if 0 ≤ i ∧ i < 251 then 0 else I1 10 i) 10 i = 0 := fun i hi => by rw [zrI_row, if_pos (by omega)]
  have g1 : ∀ i, i ≠ 10 → zrI I1 10 (fun i => if 0 ≤ i ∧ i < 251 then 0 else I1 10 i) i = I1 i := fun i hi => zrI_ne _ _ hi
  generalize zrI I1 10 (fun i => if 0 ≤ i ∧ i < 251 then 0 else I1 10 i) = I3 at *
  have hCl : zCl 0 0 0 0 0 0 t B 0 I3 K := by
    refine ⟨⟨by rw [g1 7 (by decide)]; exact a2, by rw [g1 7 (by decide)]; exact a3, by rw [f0 1 (by decide) (by decide) (by decide) (by decide) (by decide) (by decide)]; exact T.2.1, f9, by omega, by rw [g1 8 (by decide), f1 1 (by decide) (by decide) (by decide)]; exact a5, f10⟩, ⟨⟨by omega, by omega, by omega, by omega, by omega⟩, ⟨f6 0 (by omega), f6 1 (by omega), f6 2 (by omega), f6 3 (by omega), f6 4 (by omega)⟩, ⟨g10 84 (by omega), g10 85 (by omega), g10 86 (by omega), g10 87 (by omega), g10 88 (by omega)⟩, f6 5 (by omega), fun b h => by omega, fun b h => by omega, fun b h => by omega, fun b h => by omega, fun b h => by omega, ⟨fun i h => g10 i (by omega), fun i h h' => g10 i (by omega), fun i h h' => g10 i (by omega), fun i h h' => g10 i (by omega)⟩, fun _ => ⟨rfl, rfl, rfl, rfl⟩⟩, f12, f15, by rw [f8, if_pos rfl], by omega⟩
  obtain ⟨r, I4, I4', b1, b2, b3, b4, b5⟩ := p_parseL (σ := σ) (J := J) (J' := J') 40 0 0 0 0 0 0 0 I3 K (by omega) hCl
  rw [show qr_parse_19 1 0 σ I3 J = _ from b1, zkI_s, b2, zkI_s]
  have y1 : ∀ i, i ≠ 7 → i ≠ 8 → i ≠ 10 → I4 i = I i := fun i h7 h8 h10 => by rw [b3.1 i h7 h10, g1 i h10, a6 i h7 h8]
  have y2 : ∀ i, i ≠ 0 → i ≠ 3 → i ≠ 6 → I4' i = I' i := fun i h0 h3 h6 => by rw [b4.1 i h0 h6, f1 i h0 h3 h6]
  have y3 : ∀ k, k = 2 ∨ k = 22 ∨ k = 23 ∨ k = 25 → I4' 0 k = I' 0 k := fun k hk => by rw [b4.2.1 k (by omega) (by omega) (by omega) (by omega) (by omega) (by omega), f0 k (by omega) (by omega) (by omega) (by omega) (by omega) (by omega)]
  rcases b5 with ⟨r0, rc⟩ | ⟨rfl, nb', nk', ns', nr', nh', C, V, hn, eC⟩
  · rw [if_neg r0, if_neg r0, if_pos rfl, rc]
    refine ⟨_, _, _, rfl, rfl, σ, _, J, _, J', nb, nk, ns, nr, nh, 0, j, u, rfl, rfl, zSta_rd H ?_ ?_ ?_ (fun k hk => ?_) (zsI_at _ _ _ _) (y2 10 (by decide) (by decide) (by decide)) (y2 11 (by decide) (by decide) (by decide)) y3 b4.2.2, zRu_c R (fun i hi => ?_) ?_ (fun i hi => y2 i (by omega) (by omega) (by omega)) (y3 2 (by omega)), zIm_c M (fun i hi => ?_) (fun i hi => y2 i (by omega) (by omega) (by omega)), zBn_s Bn rfl⟩
    · rw [zsI_ne _ _ _ (by decide), y1 3 (by decide) (by decide) (by decide)]
    · rw [zsI_ne _ _ _ (by decide), y1 6 (by decide) (by decide) (by decide)]
    · rw [zsI_ne _ _ _ (by decide), y1 25 (by decide) (by decide) (by decide)]
    · rw [zsI_no _ _ _ (by omega), y1 0 (by decide) (by decide) (by decide)]
    · rw [zsI_ne _ _ _ (by omega), y1 i (by omega) (by omega) (by omega)]
    · rw [zsI_no _ _ _ (by omega), y1 0 (by decide) (by decide) (by decide)]
    · rw [zsI_ne _ _ _ (by omega), y1 i (by omega) (by omega) (by omega)]
  · obtain ⟨I5', c1, c2, c3, c4, c5⟩ := p_riv49 (J := J') 258 0 I4' (by omega) (fun i hi => by omega)
    rw [if_pos rfl, if_pos rfl, if_neg z10, p_cell w2 (n := 83) (by decide) (by omega), zkI_s, p_copy9, zkV_s, t_qb_forgetActs, zkV_s, p_cell w2 (n := 85) (by decide) (by omega), zkI_s, show qm_river_49 0 I4' J' = _ from c1]
    have x83 : zsI I4 0 1 0 3 83 = I 3 83 := by rw [zsI_ne _ _ _ (by decide), y1 3 (by decide) (by decide) (by decide)]
    rw [x83]
    have z3 : ∀ k, k < 251 → k ≠ 83 → zsI (zsI (zrI (zsI I4 0 1 0) 3 (va_cpy (zsI I4 0 1 0 10) (zsI I4 0 1 0 3) 0 0 251)) 3 83 (I 3 83)) 0 8 0 3 k = zst ns' C k := fun k hk hk' => by
      rw [zsI_ne _ _ _ (by decide), zsI_no _ _ _ hk', zrI_row, zva_in (by omega), zsI_ne _ _ _ (by decide), show 0 + (k - 0) = k by omega, eC]
    have z83 : zsI (zsI (zrI (zsI I4 0 1 0) 3 (va_cpy (zsI I4 0 1 0 10) (zsI I4 0 1 0 3) 0 0 251)) 3 83 (I 3 83)) 0 8 0 3 83 = I 3 83 := by rw [zsI_ne _ _ _ (by decide), zsI_at]
    have zo : ∀ i, i ≠ 0 → i ≠ 3 → i ≠ 7 → i ≠ 8 → i ≠ 10 → zsI (zsI (zrI (zsI I4 0 1 0) 3 (va_cpy (zsI I4 0 1 0 10) (zsI I4 0 1 0 3) 0 0 251)) 3 83 (I 3 83)) 0 8 0 i = I i := fun i h0 h3 h7 h8 h10 => by
      rw [zsI_ne _ _ _ h0, zsI_ne _ _ _ h3, zrI_ne _ _ h3, zsI_ne _ _ _ h0, y1 i h7 h8 h10]
    have z0 : ∀ k, k ≠ 1 → k ≠ 8 → zsI (zsI (zrI (zsI I4 0 1 0) 3 (va_cpy (zsI I4 0 1 0 10) (zsI I4 0 1 0 3) 0 0 251)) 3 83 (I 3 83)) 0 8 0 0 k = I 0 k := fun k h1 h8 => by
      rw [zsI_no _ _ _ h8, zsI_ne _ _ _ (by decide), zrI_ne _ _ (by decide), zsI_no _ _ _ h1, y1 0 (by decide) (by decide) (by decide)]
    have z01 : zsI (zsI (zrI (zsI I4 0 1 0) 3 (va_cpy (zsI I4 0 1 0 10) (zsI I4 0 1 0 3) 0 0 251)) 3 83 (I 3 83)) 0 8 0 0 1 = 0 := by
      rw [zsI_no _ _ _ (by decide), zsI_ne _ _ _ (by decide), zrI_ne _ _ (by decide), zsI_at]
    have z08 : zsI (zsI (zrI (zsI I4 0 1 0) 3 (va_cpy (zsI I4 0 1 0 10) (zsI I4 0 1 0 3) 0 0 251)) 3 83 (I 3 83)) 0 8 0 0 8 = 0 := zsI_at _ _ _ _
    generalize zsI (zsI (zrI (zsI I4 0 1 0) 3 (va_cpy (zsI I4 0 1 0 10) (zsI I4 0 1 0 3) 0 0 251)) 3 83 (I 3 83)) 0 8 0 = I5 at *
    have nb2 := V.1.1
    have ns8 := V.1.2.2.1
    have G' : zGood nb' nk' ns' nr' nh' (I5 3) (I5' 10) := zRv_end V hn z3 (fun i hi => by
      rw [c2 i hi]
      unfold zsd
      rw [V.2.1.1, V.2.1.2.2.1, show nI ns' - 1 = nI (ns' - 1) from z_sub1 (k := 1) (by omega)]
      by_cases q : nb' = 2
      · by_cases e18 : i = 18
        · rw [if_pos (show nI nb' = 2 ∧ i = 18 from ⟨by rw [q]; rfl, e18⟩), if_pos (show nb' = 2 ∧ i = 18 from ⟨q, e18⟩)]
        · rw [if_neg (fun h => e18 h.2), if_neg (fun h => e18 h.2)]
      · rw [if_neg (fun h => q (znI (b := 2) (by omega) (by omega) h.1)), if_neg (fun h => q h.1)])
    have ea : I5 3 85 = I4' 6 1 := by
      rw [z3 85 (by omega) (by omega), V.2.1.2.1]
      exact V.2.2.1.2.1
    rw [ea]
    exact ⟨_, _, _, rfl, rfl, σ, I5, J, I5', J', nb', nk', ns', nr', nh', 0, j, 0, rfl, rfl, ⟨⟨z01, by rw [c5 1 (by decide)]; exact b4.2.2, by omega, fun i hi => by omega⟩, G', ⟨Rg.1, by omega, fun i hi => by omega⟩, by rw [z83, c5 22 (by decide), y3 22 (by omega)]; exact x, by rw [c5 22 (by decide), y3 22 (by omega)]; exact x0, by rw [c5 23 (by decide), y3 23 (by omega)]; exact n, by rw [z0 7 (by decide) (by decide)]; exact e7, z08, c3, by rw [z0 5 (by decide) (by decide), c5 2 (by decide), y3 2 (by omega)]; exact e5, by rw [zo 25 (by decide) (by decide) (by decide) (by decide) (by decide)]; exact e6⟩, zRu_c R (fun i hi => zo i (by omega) (by omega) (by omega) (by omega) (by omega)) (z0 5 (by decide) (by decide)) (fun i hi => by rw [c4 i (by omega) (by omega), y2 i (by omega) (by omega) (by omega)]) (by rw [c5 2 (by decide), y3 2 (by omega)]), zIm_c M (fun i hi => zo i (by omega) (by omega) (by omega) (by omega) (by omega)) (fun i hi => by rw [c4 i (by omega) (by omega), y2 i (by omega) (by omega) (by omega)]), zBn_s Bn rfl⟩
theorem zke2 : zo2 zRe := by
  intro n hx hm R0
  obtain ⟨σ, I, J, I', J', nb, nk, ns, nr, nh, t, j, u, rfl, rfl, H, R, M, B⟩ := R0
  show zKe n (qb_river σ I J) (qm_river I' J')
  exact o_river H R M B
