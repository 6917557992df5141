/-! ===== image, back ===== -/
theorem zsz_app (a b : List zE) : zsz (a ++ b) = zsz a + zsz b := by
  unfold zsz
  rw [List.map_append, List.sum_append]
theorem zup_at (f : Nat → Option Nat) (k : Nat) (v : Option Nat) : zup f k v k = v := by
  unfold zup
  rw [Nat.beq_refl]
  rfl
/-- the state with other rows far away, an image more -/
theorem zSta_far {nb nk ns nr nh t j u : Nat} {I I' I1 I1' : zTI} (H : zSta nb nk ns nr nh t j u I I') (h1 : ∀ i, i < 47 → I1 i = I i) (h2 : ∀ i, i ≠ 18 → i ≠ 19 → i ≠ 20 → I1' i = I' i) : zSta nb nk ns nr nh t j u I1 I1' := by
  obtain ⟨⟨t1, t2, t3, t4⟩, G, Rg, x, x0, n, e7, e8, e25, e5, e6⟩ := H
  have r0 := h2 0 (by decide) (by decide) (by decide)
  have i0 := h1 0 (by decide)
  refine ⟨⟨by rw [i0]; exact t1, by rw [r0]; exact t2, t3, fun i hi => ?_⟩, ?_, ?_, ?_, ?_, ?_, ?_, ?_, ?_, ?_, ?_⟩
  · rw [h1 1 (by decide), h2 1 (by decide) (by decide) (by decide)]
    exact t4 i hi
  · rw [h1 3 (by decide), h2 10 (by decide) (by decide) (by decide)]
    exact G
  · rw [h1 3 (by decide), h1 6 (by decide), h2 11 (by decide) (by decide) (by decide)]
    exact Rg
  · rw [h1 3 (by decide), r0]
    exact x
  · rw [r0]
    exact x0
  · rw [r0]
    exact n
  · rw [i0]
    exact e7
  · rw [i0]
    exact e8
  · rw [r0]
    exact e25
  · rw [i0, r0]
    exact e5
  · rw [h1 25 (by decide)]
    exact e6
set_option maxHeartbeats 4000000 in
theorem o_image {N nb nk ns nr nh t j u : Nat} {σ : zSg} {I I' : zTI} {J J' : zTJ} {x : Int32} (H : zSta nb nk ns nr nh t j u I I') (R : zRu σ I I') (M : zIm σ I I') (B : zBn N σ) : zKe N (zS zG 2 152 0 [some (.ref 0), some (.int x)] [] (zSC σ, I, J)) (qm_image x I' J') := by
  obtain ⟨T, G, Rg, hx, x0, n, e7, e8, e25, e5, e6⟩ := id H
  rw [t_qm_image, p_in2 (a := 0) (b := 3) rfl rfl, zkI_s]
  have bad : ∀ hx : x < 0 ∨ ¬ x < 4, ∀ y : Option zR, y = some (some (.int (-1)), (zSM, I', J')) → zKe N (zS zG 2 152 0 [some (.ref 0), some (.int x)] [] (zSC σ, I, J)) y := fun hx y hy => by
    rw [p_image2 σ I J hx, hy]
    exact zKe_D R M B (zDo_same (J := J) (J' := J') H ⟨_, rfl, rfl⟩)
  by_cases q0 : x < 0
  · rw [if_neg (show ¬ (¬ x < 0 ∧ ¬ 3 < x) from fun h => h.1 q0), if_pos rfl]
    exact bad (Or.inl q0) _ rfl
  by_cases q3 : 3 < x
  · rw [if_neg (show ¬ (¬ x < 0 ∧ ¬ 3 < x) from fun h => h.2 q3), if_pos rfl]
    refine bad (Or.inr fun h => ?_) _ rfl
    have a := Int32.lt_iff_toInt_lt.mp q3
    have b := Int32.lt_iff_toInt_lt.mp h
    rw [show (3 : Int32).toInt = 3 from rfl] at a
    rw [show (4 : Int32).toInt = 4 from rfl] at b
    omega
  obtain ⟨k, -, hk3, rfl⟩ := zIab (a := 0) (b := 3) rfl rfl (by omega) (by omega) q0 q3
  have hk : k < 4 := by omega
  rw [if_pos (show ¬ nI k < 0 ∧ ¬ 3 < nI k from ⟨q0, q3⟩), if_neg z10, zif_n (by omega) (by omega), zif_n (by omega) (by omega), ztnn (by omega), show qm_image_33 (nI k) 0 _ J' = _ from p_imgL hk 258 0 _ (by omega)]
  have e10 : zsI (zsI I' 20 k 1) 19 k (I' 0 22) 10 = I' 10 := by rw [zsI_ne _ _ _ (by decide), zsI_ne _ _ _ (by decide)]
  rw [e10]
  generalize eI : zrI (zsI (zsI I' 20 k 1) 19 k (I' 0 22)) 18 (fun i => if 258 * k + 0 ≤ i ∧ i < 258 * k + 258 then I' 10 (i - 258 * k) else zsI (zsI I' 20 k 1) 19 k (I' 0 22) 18 i) = I1'
  have f0 : ∀ i, i ≠ 18 → i ≠ 19 → i ≠ 20 → I1' i = I' i := fun i a1 a2 a3 => by rw [← eI, zrI_ne _ _ a1, zsI_ne _ _ _ a2, zsI_ne _ _ _ a3]
  have f20 : I1' 20 k = 1 := by rw [← eI, zrI_ne _ _ (by decide), zsI_ne _ _ _ (by decide), zsI_at]
  have f20' : ∀ k', k' ≠ k → I1' 20 k' = I' 20 k' := fun k' h => by rw [← eI, zrI_ne _ _ (by decide), zsI_ne _ _ _ (by decide), zsI_no _ _ _ h]
  have f19 : I1' 19 k = I' 0 22 := by rw [← eI, zrI_ne _ _ (by decide), zsI_at]
  have f19' : ∀ k', k' ≠ k → I1' 19 k' = I' 19 k' := fun k' h => by rw [← eI, zrI_ne _ _ (by decide), zsI_no _ _ _ h, zsI_ne _ _ _ (by decide)]
  have f18 : ∀ i, i < 258 → I1' 18 (258 * k + i) = I' 10 i := fun i hi => by rw [← eI, zrI_row, if_pos (by omega), show 258 * k + i - 258 * k = i by omega]
  have f18' : ∀ k' i, k' ≠ k → i < 258 → I1' 18 (258 * k' + i) = I' 18 (258 * k' + i) := fun k' i h hi => by rw [← eI, zrI_row, if_neg (by omega), zsI_ne _ _ _ (by decide), zsI_ne _ _ _ (by decide)]
  have ed : I 3 0 = I' 10 5 := G.1.2.2.2.1
  have hl := zSC_len σ
  have far : ∀ (σ' : zSg) (I1 : zTI) (J1 : zTJ) (o : Nat), σ'.2.2.1 = σ.2.2.1 → σ'.2.2.2.1 = zup σ.2.2.2.1 k (some o) → 47 ≤ o → (∀ k' o', k' < 4 → k' ≠ k → σ.2.2.2.1 k' = some o' → o' ≠ o) → (∀ i, i < (zSC σ).length → i ≠ o + 1 → I1 i = I i) → (∀ i, i < 251 → I1 (o + 1) i = I 3 i) → (zSC σ')[o]? = some (9, 0, zls [some (o + 1)]) → (zSC σ')[o + 1]? = some (13, 251, zno) → (∀ i, i < (zSC σ).length → i ≠ 4 → (zSC σ')[i]? = (zSC σ)[i]?) → (∀ t q cq lq sq n m, σ.2.2.1 t = some q → zRS (zSC σ) q cq lq sq n m → (∀ k o, k < 4 → σ.2.2.2.1 k = some o → cq ≠ o + 1 ∧ lq ≠ o + 1) → cq ≠ o + 1 ∧ lq ≠ o + 1) → zBn (N + 1) σ' → zKe N (some (some (.int (I 3 0)), (zSC σ', I1, J1))) (some (some (.int (I' 10 5)), (zSM, I1', J'))) := by
    intro σ' I1 J1 o a1 a2 a3 a4 a5 a6 a7 a8 a9 a10 a11
    rw [ed]
    refine ⟨_, _, _, rfl, rfl, σ', I1, J1, I1', J', nb, nk, ns, nr, nh, t, j, u, rfl, rfl, zSta_far H (fun i hi => a5 i (by omega) (by omega)) f0, ?_, ⟨fun k' hk' => ?_, ?_⟩, a11⟩
    · obtain ⟨nu, g1, g2, g3, g4⟩ := R
      refine ⟨nu, g1, by rw [a5 0 (by omega) (by omega)]; exact g2, by rw [f0 0 (by decide) (by decide) (by decide)]; exact g3, fun t ht => ?_⟩
      obtain ⟨q, cq, lq, sq, L, nc, kd, shf, ss, ts, te, y1, y2, y3, y4, y5, y7, y6⟩ := g4 t ht
      obtain ⟨d1, d2⟩ := a10 t q cq lq sq _ _ y1 y6.1 y7
      obtain ⟨k0, rf, r1, r2, r3, r4, hq, hr0, hr1, hr2, hcq, hlq, hs, h18, hne⟩ := id y6.1
      obtain ⟨z1, z2⟩ := zRl_c y6 (a5 cq (zlt_at hcq) d1) (a5 lq (zlt_at hlq) d2) (f0 2 (by decide) (by decide) (by decide)) (f0 4 (by decide) (by decide) (by decide)) (f0 5 (by decide) (by decide) (by decide))
      refine ⟨q, cq, lq, sq, L, nc, kd, shf, ss, ts, te, by rw [a1]; exact y1, y2, y3, y4, y5, fun k' o' hk' h => ?_, ⟨k0, rf, r1, r2, r3, r4, ?_, hr0, hr1, hr2, ?_, ?_, ?_, ?_, hne⟩, z2⟩
      · rw [a2] at h
        by_cases qk : k' = k
        · subst qk
          rw [zup_at] at h
          cases h
          exact ⟨d1, d2⟩
        · rw [zup_ne qk] at h
          exact y7 k' o' hk' h
      · rw [a9 q (zlt_at hq) (by omega)]; exact hq
      · rw [a9 cq (zlt_at hcq) (by omega)]; exact hcq
      · rw [a9 lq (zlt_at hlq) (by omega)]; exact hlq
      · rw [a9 sq (zlt_at hs) (by omega)]; exact hs
      · rw [a9 18 (by omega) (by omega)]; exact h18
    · rw [a2]
      by_cases qk : k' = k
      · subst qk
        refine Or.inr ⟨o, zup_at _ _ _, a3, a7, a8, f20, ?_, ?_, nb, nk, ns, nr, nh, ?_⟩
        · rw [a6 83 (by omega), f19]; exact hx
        · rw [f19]; exact x0
        · exact zGood_cong G (fun i hi _ => a6 i hi) (fun i hi => f18 i hi)
      · rw [zup_ne qk]
        rcases M.1 k' hk' with ⟨m1, m2⟩ | ⟨o', m0, m1, m2, m3, m4, m5, m6, nb', nk', ns', nr', nh', m7⟩
        · exact Or.inl ⟨m1, by rw [f20' k' qk]; exact m2⟩
        · have hne := a4 k' o' hk' qk m0
          have l1 := zlt_at m2
          have l2 := zlt_at m3
          refine Or.inr ⟨o', m0, m1, ?_, ?_, ?_, ?_, ?_, nb', nk', ns', nr', nh', ?_⟩
          · rw [a9 _ l1 (by omega)]; exact m2
          · rw [a9 _ l2 (by omega)]; exact m3
          · rw [f20' k' qk]; exact m4
          · rw [a5 _ l2 (by omega), f19' k' qk]; exact m5
          · rw [f19' k' qk]; exact m6
          · exact zGood_cong m7 (fun i hi _ => by rw [a5 _ l2 (by omega)]) (fun i hi => f18' k' i qk hi)
    · intro k1 k2 o1 o2 b1 b2 b3 b4 b5
      rw [a2] at b4 b5
      by_cases q1 : k1 = k
      · subst q1
        rw [zup_at] at b4
        cases b4
        rw [zup_ne (fun h => b3 h.symm)] at b5
        exact fun h => a4 k2 o2 b2 (fun h => b3 h.symm) b5 h.symm
      · rw [zup_ne q1] at b4
        by_cases q2 : k2 = k
        · subst q2
          rw [zup_at] at b5
          cases b5
          exact a4 k1 o1 b1 q1 b4
        · rw [zup_ne q2] at b5
          exact M.2 k1 k2 o1 o2 b1 b2 b3 b4 b5
  rcases M.1 k hk with ⟨m1, m2⟩ | ⟨o, m0, m1, m2, m3, m4, m5, m6, m7⟩
  · obtain ⟨I1, J1, h1, h2, h3⟩ := p_image0 σ I J hk m1
    rw [h1]
    refine far (zAd σ k) I1 J1 (zSC σ).length rfl rfl (by omega) (fun k' o' hk' _ h => ?_) (fun i hi _ => h2 i hi) h3 (zAd_o σ k) (zAd_c σ k) (fun i hi h4 => zAd_k σ k hi h4) (fun t q cq lq sq n m _ hR _ => ?_) ?_
    · rcases M.1 k' hk' with ⟨z1, z2⟩ | ⟨o'', z0, z1, z2, z3, -⟩
      · rw [z1] at h; cases h
      · rw [z0] at h
        cases h
        have := zlt_at z2
        omega
    · obtain ⟨k0, rf, r1, r2, r3, r4, hq, hr0, hr1, hr2, hcq, hlq, hs, h18, hne⟩ := hR
      have := zlt_at hcq
      have := zlt_at hlq
      omega
    · obtain ⟨b1, b2⟩ := B
      refine ⟨?_, ?_⟩
      · show (σ.2.2.2.2 ++ _).length ≤ _
        rw [List.length_append]
        show σ.2.2.2.2.length + 2 ≤ _
        omega
      · show zsz (σ.2.2.2.2 ++ _) ≤ _
        rw [zsz_app]
        have : zsz [((9 : Nat), (0 : Nat), zls [some ((zSC σ).length + 1)]), (13, 251, zno)] ≤ 2000 := by
          show zNf 9 + (251 + 0) ≤ 2000
          decide
        omega
  · rw [p_image1 σ I J hk m0 m1 m2 m3]
    have es : zup σ.2.2.2.1 k (some o) = σ.2.2.2.1 := by
      funext i
      by_cases q : i = k
      · subst q
        rw [zup_at, m0]
      · rw [zup_ne q]
    refine far σ _ J o rfl es.symm m1 (fun k' o' hk' hne h => ?_) (fun i hi h => zrI_ne _ _ h) (fun i hi => ?_) m2 m3 (fun _ _ _ => rfl) (fun t q cq lq sq n m _ _ h => h k o hk m0) (zBn_s B rfl)
    · exact M.2 k' k o' o hk' hk hne h m0
    · rw [zrI_row, zva_in (by omega), show 0 + (i - 0) = i by omega]
