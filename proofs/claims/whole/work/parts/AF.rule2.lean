/-! ===== rule keeps the relation ===== -/
/-- both begin to read a rule -/
theorem p_beginU {σ : zSg} {I I' : zTI} {J : zTJ} {t nu : Nat} {B : Nat → Nat} (T : zTxt t B (I 1) (I' 1)) (e1 : I' 0 1 = nI t) (hnu : nu < 6) : ∃ I3 K, qu_parse (nI t) σ I J = qu_parse_26 1 (nI 0) σ I3 J ∧ (∀ J', qm_readsAll (zsI (zsI I' 0 12 (nI nu)) 5 nu 0) J' = zkI (qm_clauseHere K J') zSM (fun r3 I1 J2 => (qm_readsAll_35 r3 I1 J2))) ∧ zQl 0 t B nu 0 [] 0 I3 K ∧ (∀ i, i ≠ 11 → i ≠ 12 → I3 i = I i) ∧ (∀ i, i ≠ 0 → i ≠ 3 → i ≠ 5 → K i = I' i) ∧ (∀ k, k ≠ 9 → k ≠ 10 → k ≠ 12 → k ≠ 13 → k ≠ 15 → K 0 k = I' 0 k) ∧ ∀ j, j < nu → K 5 j = I' 5 j := by
  obtain ⟨I1, a1, a2, a3, a4, a5, a6, a7⟩ := p_open s11 (σ := σ) (J := J) T
  refine ⟨zsI (zsI (zsI I1 11 6 0) 11 8 0) 11 9 0, zsI (zsI (zsI (zsI (zsI (zsI (zsI I' 0 12 (nI nu)) 5 nu 0) 3 nu 0) 0 15 0) 0 9 0) 0 10 0) 0 13 0, ?_, fun J' => ?_, ⟨⟨⟨?_, ?_, ?_, ?_, by omega, ?_, ?_⟩, ⟨?_, ?_, ?_, fun j hj => absurd hj (by simp), fun x hx => by cases hx⟩, zsI_at _ _ _ _, zsI_at _ _ _ _, by omega, Nat.le_refl _, ?_⟩, ?_, ?_, ?_, by omega, fun c hc => by omega, Nat.le_refl _⟩, fun i h1 h2 => ?_, fun i h0 h3 h5 => ?_, fun k h9 h10 h12 h13 h15 => ?_, fun j hj => ?_⟩
  · rw [t_qu_parse, a1, zkV_s]
    rfl
  · have l12 : zsI (zsI I' 0 12 (nI nu)) 5 nu 0 0 12 = nI nu := by rw [zsI_ne _ _ _ (by decide), zsI_at]
    rw [t_qm_readsAll, l12, zif_n (by omega) (by omega), ztnn (by omega)]
  · rw [zsI_no _ _ _ (by decide), zsI_no _ _ _ (by decide), zsI_no _ _ _ (by decide)]; exact a2
  · rw [zsI_no _ _ _ (by decide), zsI_no _ _ _ (by decide), zsI_no _ _ _ (by decide)]; exact a3
  · rw [zsI_no _ _ _ (by decide), zsI_no _ _ _ (by decide), zsI_no _ _ _ (by decide), zsI_no _ _ _ (by decide), zsI_ne _ _ _ (by decide), zsI_ne _ _ _ (by decide), zsI_no _ _ _ (by decide)]; exact e1
  · rw [zsI_no _ _ _ (by decide), zsI_no _ _ _ (by decide), zsI_at]; rfl
  · rw [zsI_ne _ _ _ (by decide), zsI_ne _ _ _ (by decide), zsI_ne _ _ _ (by decide), zsI_ne _ _ _ (by decide), zsI_ne _ _ _ (by decide), zsI_ne _ _ _ (by decide), zsI_ne _ _ _ (by decide), zsI_ne _ _ _ (by decide), zsI_ne _ _ _ (by decide), zsI_ne _ _ _ (by decide)]; exact a5
  · rw [zsI_no _ _ _ (by decide), zsI_at]
  · rw [zsI_no _ _ _ (by decide), zsI_no _ _ _ (by decide), zsI_at]; rfl
  · rw [zsI_no _ _ _ (by decide), zsI_no _ _ _ (by decide), zsI_no _ _ _ (by decide), zsI_no _ _ _ (by decide), zsI_ne _ _ _ (by decide), zsI_ne _ _ _ (by decide), zsI_at]
  · rw [zsI_ne _ _ _ (by decide), zsI_ne _ _ _ (by decide), zsI_ne _ _ _ (by decide), zsI_ne _ _ _ (by decide), zsI_at]; rfl
  · rw [zsI_no _ _ _ (by decide), zsI_no _ _ _ (by decide), zsI_no _ _ _ (by decide)]; exact a4
  · rw [zsI_no _ _ _ (by decide), zsI_at]; rfl
  · rw [zsI_ne _ _ _ (by decide), zsI_ne _ _ _ (by decide), zsI_ne _ _ _ (by decide), zsI_ne _ _ _ (by decide), zsI_ne _ _ _ (by decide), zsI_at]; rfl
  · rw [zsI_no _ _ _ (by decide), zsI_no _ _ _ (by decide), zsI_no _ _ _ (by decide), zsI_at]; rfl
  · rw [zsI_ne _ _ _ h1, zsI_ne _ _ _ h1, zsI_ne _ _ _ h1, a6 i h1 h2]
  · rw [zsI_ne _ _ _ h0, zsI_ne _ _ _ h0, zsI_ne _ _ _ h0, zsI_ne _ _ _ h0, zsI_ne _ _ _ h3, zsI_ne _ _ _ h5, zsI_ne _ _ _ h0]
  · rw [zsI_no _ _ _ h13, zsI_no _ _ _ h10, zsI_no _ _ _ h9, zsI_no _ _ _ h15, zsI_ne _ _ _ (by decide), zsI_ne _ _ _ (by decide), zsI_no _ _ _ h12]
  · rw [zsI_ne _ _ _ (by decide), zsI_ne _ _ _ (by decide), zsI_ne _ _ _ (by decide), zsI_ne _ _ _ (by decide), zsI_ne _ _ _ (by decide), zsI_no _ _ _ (by omega), zsI_ne _ _ _ (by decide)]
/-- the tape is empty again, the rules may be more -/
theorem zSta_ru {nb nk ns nr nh t j u : Nat} {I I' I1 I1' : zTI} (H : zSta nb nk ns nr nh t j u I I') (h3 : I1 3 = I 3) (h6 : I1 6 = I 6) (h25 : I1 25 = I 25) (h0 : ∀ k, k = 7 ∨ k = 8 → I1 0 k = I 0 k) (h1 : I1 0 1 = 0) (g10 : I1' 10 = I' 10) (g11 : I1' 11 = I' 11) (g0 : ∀ k, k = 22 ∨ k = 23 ∨ k = 25 → I1' 0 k = I' 0 k) (g1 : I1' 0 1 = 0) (h5 : I1 0 5 = I1' 0 2) : zSta nb nk ns nr nh 0 j u I1 I1' := by
  obtain ⟨T, G, R, x, x0, n, e7, e8, e25, e5, e6⟩ := H
  refine ⟨⟨h1, g1, by omega, fun i hi => by omega⟩, by rw [h3, g10]; exact G, by rw [h3, h6, g11]; exact R, by rw [h3, g0 22 (by omega)]; exact x, by rw [g0 22 (by omega)]; exact x0, by rw [g0 23 (by omega)]; exact n, by rw [h0 7 (by omega)]; exact e7, by rw [h0 8 (by omega)]; exact e8, by rw [g0 25 (by omega)]; exact e25, h5, by rw [h25]; exact e6⟩
theorem zIm_r {σ σ' : zSg} {I I1 I' I1' : zTI} (M : zIm σ I I') (hi : σ'.2.2.2.1 = σ.2.2.2.1) (hk : ∀ i, i < (zSC σ).length → i ≠ 5 → (zSC σ')[i]? = (zSC σ)[i]?) (h1 : ∀ i, 47 ≤ i → i < (zSC σ).length → I1 i = I i) (h2 : ∀ i, i = 18 ∨ i = 19 ∨ i = 20 → I1' i = I' i) : zIm σ' I1 I1' := by
  refine ⟨fun k hk' => ?_, by rw [hi]; exact M.2⟩
  rw [hi]
  rcases M.1 k hk' with ⟨m1, m2⟩ | ⟨o, m0, m1, m2, m3, m4, m5, m6, nb, nk, ns, nr, nh, m7⟩
  · exact Or.inl ⟨m1, by rw [h2 20 (by omega)]; exact m2⟩
  · have l1 := zlt_at m2
    have l2 := zlt_at m3
    refine Or.inr ⟨o, m0, m1, ?_, ?_, ?_, ?_, ?_, nb, nk, ns, nr, nh, ?_⟩
    · rw [hk _ l1 (by omega)]; exact m2
    · rw [hk _ l2 (by omega)]; exact m3
    · rw [h2 20 (by omega)]; exact m4
    · rw [h1 _ (by omega) l2, h2 19 (by omega)]; exact m5
    · rw [h2 19 (by omega)]; exact m6
    · rw [h1 _ (by omega) l2, h2 18 (by omega)]; exact m7
set_option maxHeartbeats 16000000 in
theorem o_rule {N nb nk ns nr nh t j u : Nat} {σ : zSg} {I I' : zTI} {J J' : zTJ} (H : zSta nb nk ns nr nh t j u I I') (R : zRu σ I I') (M : zIm σ I I') (Bn : zBn N σ) : zKe N (zS zG 38 119 0 [some (.ref 0), none] [] (zSC σ, I, J)) (qm_rule I' J') := by
  obtain ⟨T, G, Rg, x, x0, n, e7, e8, e25, e5, e6⟩ := id H
  obtain ⟨nu, hnu, u1, u2, u3⟩ := zRu_i.mp R
  have hl := zSC_len σ
  rw [t_qm_rule, u2]
  by_cases q6 : nu = 6
  · rw [p_rule6 (by rw [u1, q6]; decide), if_pos (show nI nu = (6 : Int32) by rw [q6]; rfl)]
    exact zKe_D R M Bn (zDo_same (J := J) (J' := J') H ⟨_, rfl, rfl⟩)
  have hnu6 : nu < 6 := by omega
  have h56 : I 0 5 < 6 := by rw [u1]; exact nI_lt (b := 6) hnu6 (by omega)
  obtain ⟨B, TX⟩ := zTxt_of T
  obtain ⟨I3, K, b1, b2, b3, b4, b5, b6, b7⟩ := p_beginU (σ := σ) (J := J) (nu := nu) TX T.2.1 hnu6
  obtain ⟨r, I4, I4', c1, c2, c3, c4, c5, c6⟩ := p_parseU (σ := σ) (J := J) (J' := J') hnu6 12 0 0 0 [] I3 K (by omega) b3
  have hpar : qu_parse (I 0 1) σ I J = some (some (.int r), (zSC σ, I4, J)) := by rw [T.1, b1, c1]
  rw [if_neg (show ¬ nI nu = (6 : Int32) from fun h => q6 (znI (b := 6) (by omega) (by omega) h)), zif_n (show nu < 6 from hnu6) (by omega), ztnn (by omega), b2 J', c2, zkI_s]
  have y1 : ∀ i, i ≠ 11 → i ≠ 12 → i ≠ 13 → i ≠ 14 → I4 i = I i := fun i h1 h2 h3 h4 => by rw [c3 i h1 h3 h4, b4 i h1 h2]
  have y2 : ∀ i, i ≠ 0 → i ≠ 2 → i ≠ 3 → i ≠ 4 → i ≠ 5 → i ≠ 7 → I4' i = I' i := fun i h0 h2 h3 h4 h5 h7 => by
    have := c4.1 i h0 h2 h3 h4 h5 h7
    rw [zsI_ne _ _ _ h0] at this
    rw [this, b5 i h0 h3 h5]
  have y3 : ∀ k, k = 2 ∨ k = 22 ∨ k = 23 ∨ k = 25 → I4' 0 k = I' 0 k := fun k hk => by
    have := c4.2.1 k (by omega) (by omega) (by omega) (by omega) (by omega) (by omega) (by omega)
    rw [zsI_no _ _ _ (by omega)] at this
    rw [this, b6 k (by omega) (by omega) (by omega) (by omega) (by omega)]
  have y4 : ∀ i, i < 400 * nu → I4' 2 i = I' 2 i := fun i hi => by
    have := c4.2.2.1 i hi
    rw [zsI_ne _ _ _ (by decide)] at this
    rw [this, b5 2 (by decide) (by decide) (by decide)]
  have y5 : ∀ i, i < 60 * nu → I4' 4 i = I' 4 i := fun i hi => by
    have := c4.2.2.2.1 i hi
    rw [zsI_ne _ _ _ (by decide)] at this
    rw [this, b5 4 (by decide) (by decide) (by decide)]
  have y6 : ∀ i, i < nu → I4' 5 i = I' 5 i := fun i hi => by
    have := c4.2.2.2.2 i hi
    rw [zsI_ne _ _ _ (by decide)] at this
    rw [this, b7 i hi]
  have i0 : I4 0 = I 0 := y1 0 (by decide) (by decide) (by decide) (by decide)
  rcases c6 with ⟨r0, rc⟩ | ⟨rfl, nc, L, l1, l2, l3, l4, l5, l6, l7⟩
  · rw [p_rule0 h56 hpar r0, if_neg r0, if_pos rfl, rc]
    refine ⟨_, _, _, rfl, rfl, σ, _, J, _, J', nb, nk, ns, nr, nh, 0, j, u, rfl, rfl, zSta_ru H ?_ ?_ ?_ (fun k hk => ?_) (zsI_at _ _ _ _) (y2 10 (by decide) (by decide) (by decide) (by decide) (by decide) (by decide)) (y2 11 (by decide) (by decide) (by decide) (by decide) (by decide) (by decide)) (fun k hk => y3 k (by omega)) c5 ?_, zRu_i.mpr ⟨nu, hnu, ?_, ?_, fun s hs => zRu1_c (u3 s hs) hs rfl rfl (fun _ _ _ => rfl) (fun i h hi => ?_) y4 y5 y6⟩, zIm_r M rfl (fun _ _ _ => rfl) (fun i h hi => ?_) (fun i hi => y2 i (by omega) (by omega) (by omega) (by omega) (by omega) (by omega)), zBn_s Bn rfl⟩
    · rw [zsI_ne _ _ _ (by decide), y1 3 (by decide) (by decide) (by decide) (by decide)]
    · rw [zsI_ne _ _ _ (by decide), y1 6 (by decide) (by decide) (by decide) (by decide)]
    · rw [zsI_ne _ _ _ (by decide), y1 25 (by decide) (by decide) (by decide) (by decide)]
    · rw [zsI_no _ _ _ (by omega), i0]
    · rw [zsI_no _ _ _ (by decide), i0, y3 2 (by omega)]; exact e5
    · rw [zsI_no _ _ _ (by decide), i0]; exact u1
    · rw [y3 2 (by omega)]; exact u2
    · rw [zsI_ne _ _ _ (by omega), y1 i (by omega) (by omega) (by omega) (by omega)]
    · rw [zsI_ne _ _ _ (by omega), y1 i (by omega) (by omega) (by omega) (by omega)]
  · obtain ⟨I5, J5, d1, d2, d3, d4, d5, d6, d7⟩ := p_rule1 (n := L.length) (nc := nc) h56 hpar (by rw [i0]; exact u1) hnu6 l6.1 l4 l1 l3
    have a2' : I4' 0 2 = nI nu := by rw [y3 2 (by omega)]; exact u2
    rw [d1, if_pos rfl, if_neg z10, a2', nI_1, show nI (nu + 1) - 1 = nI nu from z_sub1 (k := 1) (by omega)]
    have g0 : ∀ i, i ≠ 0 → zsI I4' 0 2 (nI (nu + 1)) i = I4' i := fun i hi => zsI_ne _ _ _ hi
    have g1 : ∀ k, k ≠ 2 → zsI I4' 0 2 (nI (nu + 1)) 0 k = I4' 0 k := fun k hk => zsI_no _ _ _ hk
    have g2 : zsI I4' 0 2 (nI (nu + 1)) 0 2 = nI (nu + 1) := zsI_at _ _ _ _
    generalize zsI I4' 0 2 (nI (nu + 1)) = I6' at *
    have hold : ∀ i, 47 ≤ i → i < (zSC σ).length → I5 i = I i := fun i h hi => by rw [d2 i (by omega) hi, y1 i (by omega) (by omega) (by omega) (by omega)]
    have hsk : ∀ c, ∃ v : Nat × Nat × Nat × Nat × Nat, c < nc → zC1 nu L (I4 14) (I4' 4) c v.1 v.2.1 v.2.2.1 v.2.2.2.1 v.2.2.2.2 := fun c => by
      by_cases hc : c < nc
      · obtain ⟨kd, shf, ss, ts, te, h⟩ := l7 c hc
        exact ⟨(kd, shf, ss, ts, te), fun _ => h⟩
      · exact ⟨(0, 0, 0, 0, 0), fun h => absurd h hc⟩
    obtain ⟨f, hf⟩ := Classical.skolem.mp hsk
    have hnew : zRu1 (zAr σ nu L.length nc) I5 I6' nu := by
      refine ⟨(zSC σ).length, (zSC σ).length + 1, (zSC σ).length + 2, (zSC σ).length + 3, L, nc, fun c => (f c).1, fun c => (f c).2.1, fun c => (f c).2.2.1, fun c => (f c).2.2.2.1, fun c => (f c).2.2.2.2, zup_at _ _ _, by omega, by omega, by omega, by omega, fun k o hk h => ?_, ⟨0, zrr (zSC σ).length, zno, zno, zno, zno, zAr_hi σ nu L.length nc 0, rfl, rfl, rfl, zAr_hi σ nu L.length nc 1, zAr_hi σ nu L.length nc 2, zAr_hi σ nu L.length nc 3, rfl, by omega⟩, l1, l3, fun i hi => ?_, fun i hi => ?_, l6.2.2.2.2, fun c hc => ?_, ?_, fun c hc => ?_, fun c hc => (hf c hc).2.2, l2⟩
      · rcases M.1 k hk with ⟨z1, z2⟩ | ⟨o'', z0, z1, z2, z3, -⟩
        · have h' : σ.2.2.2.1 k = some o := h
          rw [z1] at h'
          cases h'
        · have h' : σ.2.2.2.1 k = some o := h
          rw [z0] at h'
          cases h'
          have := zlt_at z3
          omega
      · rw [d6 i hi]; exact (l6.2.2.2.1 i hi).1
      · rw [g0 2 (by decide)]; exact (l6.2.2.2.1 i hi).2
      · rw [d7 _ (by omega), d7 _ (by omega), d7 _ (by omega), d7 _ (by omega), d7 _ (by omega)]
        exact (hf c hc).1
      · rw [g0 5 (by decide)]; exact l5
      · rw [g0 4 (by decide)]
        exact (hf c hc).2.1
    refine ⟨_, _, _, rfl, rfl, zAr σ nu L.length nc, I5, J5, I6', J', nb, nk, ns, nr, nh, 0, j, u, rfl, rfl, zSta_ru H ?_ ?_ ?_ (fun k hk => ?_) d4 ?_ ?_ (fun k hk => ?_) ?_ ?_, zRu_i.mpr ⟨nu + 1, by omega, d5, g2, fun s hs => ?_⟩, zIm_r M rfl (fun i h1 h2 => zAr_k σ nu L.length nc h1 h2) hold (fun i hi => ?_), ?_⟩
    · rw [d2 3 (by decide) (by omega), y1 3 (by decide) (by decide) (by decide) (by decide)]
    · rw [d2 6 (by decide) (by omega), y1 6 (by decide) (by decide) (by decide) (by decide)]
    · rw [d2 25 (by decide) (by omega), y1 25 (by decide) (by decide) (by decide) (by decide)]
    · rw [d3 k (by omega) (by omega), i0]
    · rw [g0 10 (by decide), y2 10 (by decide) (by decide) (by decide) (by decide) (by decide) (by decide)]
    · rw [g0 11 (by decide), y2 11 (by decide) (by decide) (by decide) (by decide) (by decide) (by decide)]
    · rw [g1 k (by omega), y3 k (by omega)]
    · rw [g1 1 (by decide)]; exact c5
    · rw [d5, g2]
    · by_cases q : s = nu
      · subst q
        exact hnew
      · have hs' : s < nu := by omega
        exact zRu1_c (u3 s hs') hs' (zup_ne q) rfl (fun i h1 h2 => zAr_k σ nu L.length nc h1 h2) hold (fun i hi => by rw [g0 2 (by decide)]; exact y4 i hi) (fun i hi => by rw [g0 4 (by decide)]; exact y5 i hi) (fun i hi => by rw [g0 5 (by decide)]; exact y6 i hi)
    · rw [g0 i (by omega), y2 i (by omega) (by omega) (by omega) (by omega) (by omega) (by omega)]
    · obtain ⟨z1, z2⟩ := Bn
      refine ⟨?_, ?_⟩
      · show (σ.2.2.2.2 ++ _).length ≤ _
        rw [List.length_append]
        show σ.2.2.2.2.length + 4 ≤ _
        omega
      · show zsz (σ.2.2.2.2 ++ _) ≤ _
        rw [zsz_app]
        have : zsz [((7 : Nat), (0 : Nat), zrr (zSC σ).length), (13, L.length, zno), (13, 5 * nc, zno), (14, 64, zno)] ≤ 2000 := by
          show zNf 7 + (L.length + (5 * nc + (64 + 0))) ≤ 2000
          have : zNf 7 ≤ 10 := by decide
          omega
        omega
theorem zke3 : zo3 zRe := by
  intro n hx hm R0
  obtain ⟨σ, I, J, I', J', nb, nk, ns, nr, nh, t, j, u, rfl, rfl, H, R, M, B⟩ := R0
  show zKe n (zS zG 38 119 0 [some (.ref 0), none] [] (zSC σ, I, J)) (qm_rule I' J')
  exact o_rule H R M B
