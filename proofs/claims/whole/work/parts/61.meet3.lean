/-! ===== meeting: both ===== -/
theorem zlst_ok {nk : Nat} {ab : Nat → Bool} {w : Nat → Nat} {ok ok' : Nat → Bool} {s : Option Nat} {m : Nat} (h : zsb nk ab m = true → ok m = ok' m) : zlst nk ab w ok s m = zlst nk ab w ok' s m := by
  unfold zlst
  by_cases hsb : zsb nk ab m = true
  · rw [if_pos hsb, if_pos hsb, h hsb]
  · rw [if_neg hsb, if_neg hsb]
theorem z_sh {nb nk ns nr nh b k : Nat} {C S : Nat → Int32} (G : zGood nb nk ns nr nh C S) (hb : b < nb) (hk : k < nk) : (if (C (89 + b) - 1) < C (23 + k) then (C (89 + b) - 1) else C (23 + k)) = zsh S b k := by
  obtain ⟨-, -, -, -, hB, hK, -⟩ := id G.1
  obtain ⟨-, -, -, k3, -⟩ := hK k hk
  obtain ⟨b0, -⟩ := hB b hb
  obtain ⟨n, m1, m2, en⟩ := zk_g0 G.1.ns G.2.1 hb
  obtain ⟨s, hs, es⟩ := zk_b3 G.1.ns G.2.1 hk
  unfold zsh
  rw [k3, b0, en, es]
  have e1 : nI n - 1 = nI (n - 1) := by
    rw [show nI n = nI (n - 1) + 1 by rw [nI_1, show n - 1 + 1 = n by omega]]
    exact Int32.add_sub_cancel _ _
  rw [e1]
  by_cases q : s < n
  · rw [if_pos (nI_lt q (by omega)), if_neg (fun h => by have := (nI_ltI (by omega) (by omega)).mp h; omega)]
  · rw [if_neg (show ¬ nI s < nI n from fun h => q ((nI_ltI (by omega) (by omega)).mp h)), if_pos (nI_lt (by omega) (by omega))]
theorem p_shelfOfW {w c : Nat} (hwc : zwc w c) {b : Nat} {x : Int32} (hb : b < 2) (σ : zSg) (I : zTI) (J : zTJ) : qw_shelfOf w (nI b) x σ I J = some (some (.int (if (I c (89 + b) - 1) < x then (I c (89 + b) - 1) else x)), (zSC σ, I, J)) := by
  rw [t_qw_shelfOf w _ _ c hwc, pc89 hwc hb, zkI_s]
/-- the barge of any book, or none -/
theorem p_bargeTwo {w c : Nat} (hwc : zwc w c) {nk ns nr nh k : Nat} {σ : zSg} {I : zTI} {J : zTJ} {S : Nat → Int32} (G : zGood 2 nk ns nr nh (I c) S) (hk : k < 12) : ∃ r, qw_bargeOf w (nI k) σ I J = some (some (.int r), (zSC σ, I, J)) ∧ ((r = -1 ∧ (k < nk → zab S 0 k = false ∧ zab S 1 k = false)) ∨ (r = nI 0 ∧ k < nk ∧ zab S 0 k = true) ∨ (r = nI 1 ∧ k < nk ∧ zab S 0 k = false ∧ zab S 1 k = true)) := by
  obtain ⟨⟨n0, n1, n2, n3, n4⟩, -, ⟨c0, c1, c2, c3, c4⟩, cD, hB, hK, -⟩ := id G.1
  by_cases q : k < nk
  · obtain ⟨-, -, -, -, k4, -⟩ := hK k q
    refine ⟨_, p_bargeOfW hwc c1 n1 q, ?_⟩
    rw [k4]
    rcases zbw_case n0 n2 n3 (zk_b4 G.1.ns G.2.1 q) with ⟨b, hb, ew, eb⟩ | ⟨eb, no⟩
    · rw [eb]
      rcases (show b = 0 ∨ b = 1 by omega) with rfl | rfl
      · exact Or.inr (Or.inl ⟨rfl, q, decide_eq_true ew⟩)
      · have h1 : zab S 1 k = true := decide_eq_true ew
        have h0 : zab S 0 k = false := Bool.eq_false_iff.mpr (fun h => by rw [zab_no h] at h1; cases h1)
        exact Or.inr (Or.inr ⟨rfl, q, h0, h1⟩)
    · exact Or.inl ⟨eb, fun _ => ⟨decide_eq_false (no 0 (by omega)), decide_eq_false (no 1 (by omega))⟩⟩
  · exact ⟨_, p_bargeOfW0 hwc c1 (Or.inr ⟨znn (by omega), fun h => q ((nI_ltI (by omega) (by omega)).mp h)⟩), Or.inl ⟨rfl, fun h => absurd h q⟩⟩
set_option maxHeartbeats 4000000 in
theorem p_fill105 {nk ns nr nh : Nat} {σ : zSg} {J : zTJ} {C S : Nat → Int32} (G : zGood 2 nk ns nr nh C S) : ∀ (d k : Nat) (I : zTI), k + d = 12 → I 3 = C → (∀ i, i < k → i < nk → I 35 i = zsg S i (zhv S i) ∧ I 36 i = zsg S i (ztl S 0 i) ∧ I 37 i = zsg S i (ztl S 1 i)) → ∃ I2, qt_find_105 (nI k) σ I J = qt_find_105 (nI 12) σ I2 J ∧ (∀ i, i ≠ 35 → i ≠ 36 → i ≠ 37 → I2 i = I i) ∧ (∀ i, i < nk → I2 35 i = zsg S i (zhv S i) ∧ I2 36 i = zsg S i (ztl S 0 i) ∧ I2 37 i = zsg S i (ztl S 1 i)) := by
  have n1 := G.1.ns.2.1
  intro d
  induction d with
  | zero =>
    intro k I e eC F
    have ek : k = 12 := by omega
    subst ek
    exact ⟨I, rfl, fun _ _ _ _ => rfl, fun i hi => F i (by omega) hi⟩
  | succ d ih =>
    intro k I e eC F
    subst eC
    obtain ⟨r, e1, er⟩ := p_bargeTwo w2 (σ := σ) (J := J) (k := k) G (by omega)
    have s0 : ∀ x I, qw_shelfOf 2 0 x σ I J = qw_shelfOf 2 (nI 0) x σ I J := fun _ _ => rfl
    have s1 : ∀ x I, qw_shelfOf 2 1 x σ I J = qw_shelfOf 2 (nI 1) x σ I J := fun _ _ => rfl
    have a0 : ∀ x I, qw_arm 2 0 x σ I J = qw_arm 2 (nI 0) x σ I J := fun _ _ => rfl
    have a1 : ∀ x I, qw_arm 2 1 x σ I J = qw_arm 2 (nI 1) x σ I J := fun _ _ => rfl
    rw [t_qt_find_105, if_pos (show nI k < (12 : Int32) from nI_lt (b := 12) (by omega) (by decide)), e1, zkI_s, pc23 w2 (by omega), zkI_s]
    have nx : ∀ (v1 v2 v3 : Int32), (k < nk → v1 = zsg S k (zhv S k) ∧ v2 = zsg S k (ztl S 0 k) ∧ v3 = zsg S k (ztl S 1 k)) → ∃ I2, qt_find_105 (nI (k + 1)) σ (zrI (zrI (zrI I 35 (upd (I 35) k v1)) 36 (upd (I 36) k v2)) 37 (upd (I 37) k v3)) J = qt_find_105 (nI 12) σ I2 J ∧ (∀ i, i ≠ 35 → i ≠ 36 → i ≠ 37 → I2 i = I i) ∧ (∀ i, i < nk → I2 35 i = zsg S i (zhv S i) ∧ I2 36 i = zsg S i (ztl S 0 i) ∧ I2 37 i = zsg S i (ztl S 1 i)) := by
      intro v1 v2 v3 hv
      obtain ⟨I2, f1, f2, f3⟩ := ih (k + 1) (zrI (zrI (zrI I 35 (upd (I 35) k v1)) 36 (upd (I 36) k v2)) 37 (upd (I 37) k v3)) (by omega) (by rw [zrI_ne _ _ (by decide), zrI_ne _ _ (by decide), zrI_ne _ _ (by decide)]) (fun i hi hi2 => by
        rw [zrI_row, zrI_ne (b := 36) _ _ (by decide), zrI_row, zrI_ne (b := 35) _ _ (by decide), zrI_ne (b := 35) _ _ (by decide), zrI_row]
        by_cases q : i = k
        · subst q
          rw [u_at, u_at, u_at]
          exact hv hi2
        · rw [u_no q, u_no q, u_no q]
          exact F i (by omega) hi2)
      exact ⟨I2, f1, fun i h0 h1 h2 => by rw [f2 i h0 h1 h2, zrI_ne _ _ h2, zrI_ne _ _ h1, zrI_ne _ _ h0], f3⟩
    have tail : ∀ (v : Int32), (k < nk → v = zsg S k (zhv S k) ∧ v * ((2 * zsh S 0 k - S (6 + 7 * 0 + 0)) + 1) = zsg S k (ztl S 0 k) ∧ v * ((2 * zsh S 1 k - S (6 + 7 * 1 + 0)) + 1) = zsg S k (ztl S 1 k)) → ∃ I2, (zif (zin (nI k) 12) (zif (zin (nI k) 12) (zkI (qw_shelfOf 2 0 (I 3 (23 + k)) σ (zsI I 35 (nI k).toNatClampNeg v) J) (zSC σ) (fun r9 I7 J8 => (zkI (qw_arm 2 0 r9 σ I7 J8) (zSC σ) (fun r12 I10 J11 => (zif (zin (nI k) 12) (zif (zin (nI k) 12) (zkI (qw_shelfOf 2 1 (I 3 (23 + k)) σ (zsI I10 36 (nI k).toNatClampNeg (((zsI I 35 (nI k).toNatClampNeg v) 35 (nI k).toNatClampNeg) * r12)) J11) (zSC σ) (fun r15 I13 J14 => (zkI (qw_arm 2 1 r15 σ I13 J14) (zSC σ) (fun r18 I16 J17 => (zif (zin (nI k) 12) (qt_find_105 (nI k + 1) σ (zsI I16 37 (nI k).toNatClampNeg ((I10 35 (nI k).toNatClampNeg) * r18)) J17)))))))))))))) = qt_find_105 (nI 12) σ I2 J ∧ (∀ i, i ≠ 35 → i ≠ 36 → i ≠ 37 → I2 i = I i) ∧ (∀ i, i < nk → I2 35 i = zsg S i (zhv S i) ∧ I2 36 i = zsg S i (ztl S 0 i) ∧ I2 37 i = zsg S i (ztl S 1 i)) := by
      intro v hv
      rw [zif_n (by omega) (by omega), zif_n (by omega) (by omega), ztnn (by omega), s0, p_shelfOfW w2 (by omega), zkI_s, a0, p_armW w2 (by omega), zkI_s, zif_n (by omega) (by omega), zif_n (by omega) (by omega), s1, p_shelfOfW w2 (by omega), zkI_s, a1, p_armW w2 (by omega), zkI_s, zif_n (by omega) (by omega), nI_1]
      simp only [zsI_zrI]
      rw [zrI_row, u_at, zrI_ne (b := 36) _ _ (by decide), zrI_ne (b := 37) _ _ (by decide), zrI_ne (b := 37) _ _ (by decide), zrI_ne (b := 3) _ _ (by decide), zrI_ne (b := 3) _ _ (by decide), zrI_ne (b := 3) _ _ (by decide)]
      refine nx _ _ _ (fun hk => ?_)
      obtain ⟨h1, h2, h3⟩ := hv hk
      have hB := G.1.2.2.2.2.1
      have g0 : I 3 (89 + 0) = S (6 + 7 * 0 + 0) := (hB 0 (by omega)).1
      have g1 : I 3 (89 + 1) = S (6 + 7 * 1 + 0) := (hB 1 (by omega)).1
      rw [z_sh G (show 0 < 2 by omega) hk, z_sh G (show 1 < 2 by omega) hk, g0, g1]
      exact ⟨h1, h2, h3⟩
    rcases er with ⟨rfl, hz⟩ | ⟨rfl, hk, h0⟩ | ⟨rfl, hk, h0, h1⟩
    · rw [if_pos rfl]
      refine tail 0 (fun hk => ?_)
      obtain ⟨h0, h1⟩ := hz hk
      unfold zsg
      rw [h0, h1, Int32.zero_mul, Int32.zero_mul]
      exact ⟨rfl, rfl, rfl⟩
    · obtain ⟨k0, -, k2, -⟩ := G.1.2.2.2.2.2.1 k hk
      rw [if_neg (znm (by omega)), p_heavyW w2 (by omega), zkI_s, k0, k2]
      refine tail _ (fun _ => ?_)
      unfold zsg
      rw [if_pos h0, if_pos h0, if_pos h0, show (1 : Int32) - 2 * nI 0 = 1 from by decide, Int32.mul_one]
      exact ⟨rfl, rfl, rfl⟩
    · obtain ⟨k0, -, k2, -⟩ := G.1.2.2.2.2.2.1 k hk
      rw [if_neg (znm (by omega)), p_heavyW w2 (by omega), zkI_s, k0, k2]
      refine tail _ (fun _ => ?_)
      unfold zsg
      rw [show (1 : Int32) - 2 * nI 1 = -1 from by decide]
      simp only [h0, h1, Bool.false_eq_true, if_false, if_true]
      unfold ztl zhv
      refine ⟨by grind, by grind, by grind⟩
theorem pz1 {w c : Nat} (hwc : zwc w c) (σ : zSg) (I : zTI) (J : zTJ) : qw_cell w 1 0 σ I J = some (some (.int (I c 1)), (zSC σ, I, J)) := p_cell hwc (x1 := 1) (x2 := 0) (n := 1) rfl (by omega) σ I J
theorem pz93 {w c : Nat} (hwc : zwc w c) (σ : zSg) (I : zTI) (J : zTJ) : qw_cell w 93 0 σ I J = some (some (.int (I c 93)), (zSC σ, I, J)) := p_cell hwc (x1 := 93) (x2 := 0) (n := 93) rfl (by omega) σ I J
theorem pz94 {w c : Nat} (hwc : zwc w c) (σ : zSg) (I : zTI) (J : zTJ) : qw_cell w 93 1 σ I J = some (some (.int (I c 94)), (zSC σ, I, J)) := p_cell hwc (x1 := 93) (x2 := 1) (n := 94) rfl (by omega) σ I J
theorem pz95 {w c : Nat} (hwc : zwc w c) (σ : zSg) (I : zTI) (J : zTJ) : qw_cell w 95 0 σ I J = some (some (.int (I c 95)), (zSC σ, I, J)) := p_cell hwc (x1 := 95) (x2 := 0) (n := 95) rfl (by omega) σ I J
theorem pz96 {w c : Nat} (hwc : zwc w c) (σ : zSg) (I : zTI) (J : zTJ) : qw_cell w 95 1 σ I J = some (some (.int (I c 96)), (zSC σ, I, J)) := p_cell hwc (x1 := 95) (x2 := 1) (n := 96) rfl (by omega) σ I J
set_option maxHeartbeats 4000000 in
theorem p_tfind {nk ns nr nh dy a : Nat} {σ : zSg} {I : zTI} {J : zTJ} {S : Nat → Int32} (G : zGood 2 nk ns nr nh (I 3) S) (hd : dy ≤ 9999) (ed : S 5 = nI dy) (ha : a < ns) (ea : S (6 + 7 * 0 + 5) = nI a) : qt_find σ I J = qt_find_105 (nI 0) σ (zrI I 34 (upd (upd (upd (upd (upd (upd (I 34) 5 (if a + 1 < ns then zde (I 3) dy (a + 1) else 1000000000)) 8 (if a = 0 then 1000000000 else zde (I 3) dy (a - 1))) 3 (S (6 + 7 * 0 + 2))) 6 (S (6 + 7 * 1 + 2))) 4 (S (6 + 7 * 0 + 3))) 7 (S (6 + 7 * 1 + 3)))) J := by
  obtain ⟨⟨n0, n1, n2, n3, n4⟩, ⟨s0, s1, s2, s3, s4⟩, ⟨c0, c1, c2, c3, c4⟩, cD, hB, hK, -, hR, -⟩ := id G.1
  have g1 : I 3 1 = S (6 + 7 * 0 + 5) := (hB 0 (by omega)).2.2.2.2.2.1
  have g93 : I 3 93 = S (6 + 7 * 0 + 2) := (hB 0 (by omega)).2.2.1
  have g94 : I 3 94 = S (6 + 7 * 1 + 2) := (hB 1 (by omega)).2.2.1
  have g95 : I 3 95 = S (6 + 7 * 0 + 3) := (hB 0 (by omega)).2.2.2.1
  have g96 : I 3 96 = S (6 + 7 * 1 + 3) := (hB 1 (by omega)).2.2.2.1
  have r34 : ∀ f, zrI I 34 f 3 = I 3 := fun f => zrI_ne _ _ (by decide)
  rw [t_qt_find, pz1 w2, zkI_s, g1, ea, nI_1]
  have em : ∀ (q : ¬ a = 0), nI a - 1 = nI (a - 1) := fun q => by
    rw [show nI a = nI (a - 1) + 1 by rw [nI_1, show a - 1 + 1 = a by omega]]
    exact Int32.add_sub_cancel _ _
  by_cases q : a + 1 < ns
  · rw [r1Stop w2 c2 n2 q, zkI_s, if_neg z10, p_depW w2 G hd ed q, zkI_s, if_pos q]
    by_cases q2 : a = 0
    · subst q2
      rw [r0Stop w2 (ns := ns) (by rw [zsI_ne _ _ _ (by decide)]; exact c2) (Or.inl (by decide)), zkI_s, if_pos rfl, pz93 w2, zkI_s, pz94 w2, zkI_s, pz95 w2, zkI_s, pz96 w2, zkI_s]
      simp only [zsI_zrI, zrI_zrI, zrI_row, r34]
      rw [g93, g94, g95, g96]
      rfl
    · rw [em q2, r1Stop w2 (ns := ns) (by rw [zsI_ne _ _ _ (by decide)]; exact c2) n2 (by omega), zkI_s, if_neg z10, p_depW w2 (S := S) (by rw [zsI_ne _ _ _ (by decide)]; exact G) hd ed (by omega), zkI_s, pz93 w2, zkI_s, pz94 w2, zkI_s, pz95 w2, zkI_s, pz96 w2, zkI_s]
      simp only [zsI_zrI, zrI_zrI, zrI_row, r34]
      rw [g93, g94, g95, g96, if_neg q2]
      rfl
  · rw [r0Stop w2 c2 (Or.inr ⟨znn (by omega), fun h => q ((nI_ltI (by omega) (by omega)).mp h)⟩), zkI_s, if_pos rfl, if_neg q]
    by_cases q2 : a = 0
    · subst q2
      rw [r0Stop w2 (ns := ns) (by rw [zsI_ne _ _ _ (by decide)]; exact c2) (Or.inl (by decide)), zkI_s, if_pos rfl, pz93 w2, zkI_s, pz94 w2, zkI_s, pz95 w2, zkI_s, pz96 w2, zkI_s]
      simp only [zsI_zrI, zrI_zrI, zrI_row, r34]
      rw [g93, g94, g95, g96]
      rfl
    · rw [em q2, r1Stop w2 (ns := ns) (by rw [zsI_ne _ _ _ (by decide)]; exact c2) n2 (by omega), zkI_s, if_neg z10, p_depW w2 (S := S) (by rw [zsI_ne _ _ _ (by decide)]; exact G) hd ed (by omega), zkI_s, pz93 w2, zkI_s, pz94 w2, zkI_s, pz95 w2, zkI_s, pz96 w2, zkI_s]
      simp only [zsI_zrI, zrI_zrI, zrI_row, r34]
      rw [g93, g94, g95, g96, if_neg q2]
      rfl
set_option maxHeartbeats 4000000 in
theorem o_meeting {nb nk ns nr nh t j u : Nat} {σ : zSg} {I I' : zTI} {J J' : zTJ} (H : zSta nb nk ns nr nh t j u I I') : zDo nb nk ns nr nh t σ I I' (qb_meeting σ I J) (qm_meeting I' J') := by
  obtain ⟨T, G, -, -, -, hin, -⟩ := id H
  obtain ⟨⟨n0, n1, n2, n3, n4⟩, ⟨s0, s1, s2, s3, s4⟩, ⟨c0, c1, c2, c3, c4⟩, cD, hB, hK, -, hR, -⟩ := id G.1
  rw [t_qb_meeting, t_qm_meeting, t_qw_bargesMeet 2 3 w2, c0, s0]
  by_cases q2 : nb = 2
  · subst q2
    have e1 : ∀ S, qm_stopOf 1 S J' = qm_stopOf (nI 1) S J' := fun _ => rfl
    have e0 : ∀ S, qm_stopOf 0 S J' = qm_stopOf (nI 0) S J' := fun _ => rfl
    rw [if_pos (show nI 2 = (2 : Int32) from rfl), if_neg (show ¬ nI 2 < (2 : Int32) by decide), e0, pst (by omega), zkI_s, e1, pst (by omega), zkI_s]
    have q1 : I 3 1 = I' 10 (6 + 7 * 0 + 5) := (hB 0 (by omega)).2.2.2.2.2.1
    have q2 : I 3 2 = I' 10 (6 + 7 * 1 + 5) := (hB 1 (by omega)).2.2.2.2.2.1
    rw [q1, q2]
    by_cases qe : I' 10 (6 + 7 * 0 + 5) = I' 10 (6 + 7 * 1 + 5)
    · obtain ⟨a, ha, ea⟩ := zk_g5 G.1.ns G.2.1 (show 0 < 2 by omega)
      obtain ⟨dy, hdy, edy⟩ := zk_day G.2.1
      rw [if_pos qe, if_pos qe, zkI_s, if_neg z10, show ∀ S, qm_aboardOf 0 S J' = qm_aboardOf (nI 0) S J' from fun _ => rfl, p_aboardOf n1 s1, zkI_s, show ∀ S, qm_aboardOf 1 S J' = qm_aboardOf (nI 1) S J' from fun _ => rfl, p_aboardOf n1 s1, zkI_s, e0, pst (by omega), zkI_s, ea, show ∀ x y z I, qm_meeting_50 x y z (-2) 0 I J' = qm_meeting_50 x y z (-2) (nI 0) I J' from fun _ _ _ _ => rfl]
      have pm := p_meetM (J := J') G hdy edy hin ha (2 ^ nk) 0 (by omega)
      rw [show qm_meeting_50 (zset (zab (I' 10) 0) nk) (zset (zab (I' 10) 1) nk) (nI a) (-2) (nI 0) I' J' = _ from pm]
      rw [p_tfind G hdy edy ha ea]
      generalize hD0 : (if a + 1 < ns then zde (I 3) dy (a + 1) else 1000000000) = D0
      generalize hD1 : (if a = 0 then (1000000000 : Int32) else zde (I 3) dy (a - 1)) = D1
      obtain ⟨I2, f1, f2, f3⟩ := p_fill105 (σ := σ) (J := J) G 12 0 (zrI I 34 (upd (upd (upd (upd (upd (upd (I 34) 5 D0) 8 D1) 3 (I' 10 (6 + 7 * 0 + 2))) 6 (I' 10 (6 + 7 * 1 + 2))) 4 (I' 10 (6 + 7 * 0 + 3))) 7 (I' 10 (6 + 7 * 1 + 3)))) (by omega) (by rw [zrI_ne _ _ (by decide)]) (fun i hi => absurd hi (by omega))
      have i3 : I2 3 = I 3 := by rw [f2 3 (by decide) (by decide) (by decide), zrI_ne _ _ (by decide)]
      have i34 : I2 34 = upd (upd (upd (upd (upd (upd (I 34) 5 D0) 8 D1) 3 (I' 10 (6 + 7 * 0 + 2))) 6 (I' 10 (6 + 7 * 1 + 2))) 4 (I' 10 (6 + 7 * 0 + 3))) 7 (I' 10 (6 + 7 * 1 + 3)) := by rw [f2 34 (by decide) (by decide) (by decide), zrI_row]
      have eTh : zrI I2 34 (upd (upd (I2 34) 9 13) 10 (-1)) = zTh nk I2 none := rfl
      have G2 : zGood 2 nk ns nr nh (zTh nk I2 none 3) (I' 10) := by
        rw [zTh_r (by decide), i3]
        exact G
      rw [f1, t_qt_find_105, if_neg (show ¬ nI 12 < (12 : Int32) by decide)]
      simp only [zsI_zrI, zrI_zrI, zrI_row]
      have l0 : ∀ I, qw_loadOf 2 0 σ I J = qw_loadOf 2 (nI 0) σ I J := fun _ => rfl
      have l1 : ∀ I, qw_loadOf 2 1 σ I J = qw_loadOf 2 (nI 1) σ I J := fun _ => rfl
      have t0 : ∀ I, qw_tiltOf 2 0 σ I J = qw_tiltOf 2 (nI 0) σ I J := fun _ => rfl
      have t1 : ∀ I, qw_tiltOf 2 1 σ I J = qw_tiltOf 2 (nI 1) σ I J := fun _ => rfl
      rw [eTh, pc85 w2, zkI_s, l0, p_loadOf w2 (by omega) n1 G2.1.2.2.1.2.1, zkI_s, t0, p_tiltOf w2 (by omega) n1 G2.1.2.2.1.2.1, zkI_s, l1, p_loadOf w2 (by omega) n1 G2.1.2.2.1.2.1, zkI_s, t1, p_tiltOf w2 (by omega) n1 G2.1.2.2.1.2.1, zkI_s, G2.1.2.2.1.2.1, z_loads G2.1 (show 0 < 2 by omega), z_tilts G2.1 G2.wb (show 0 < 2 by omega), z_loads G2.1 (show 1 < 2 by omega), z_tilts G2.1 G2.wb (show 1 < 2 by omega), a_ts n1 (by omega)]
      obtain ⟨g2, g3⟩ := G.wb.1 0 (by omega)
      obtain ⟨g6, g7⟩ := G.wb.1 1 (by omega)
      have ps := p_tsearch (σ := σ) (J := J) (I0 := I2) (L0 := zload (I' 10) nk 0 (zset (zab (I' 10) 0) nk)) (T0 := ztilt (I' 10) nk 0 (zset (zab (I' 10) 0) nk)) (L1 := zload (I' 10) nk 1 (zset (zab (I' 10) 1) nk)) (T1 := ztilt (I' 10) nk 1 (zset (zab (I' 10) 1) nk)) (d0 := D0) (d1 := D1) (st0 := I' 10 (6 + 7 * 0 + 2)) (le0 := I' 10 (6 + 7 * 0 + 3)) (st1 := I' 10 (6 + 7 * 1 + 2)) (le1 := I' 10 (6 + 7 * 1 + 3)) G.1.ns G.2.1 f3 (by rw [i34, u_no (by decide), u_no (by decide), u_no (by decide), u_at]) (by rw [i34, u_no (by decide), u_at]) (by rw [i34, u_no (by decide), u_no (by decide), u_no (by decide), u_no (by decide), u_no (by decide), u_at]) (by rw [i34, u_no (by decide), u_no (by decide), u_at]) (by rw [i34, u_at]) (by rw [i34, u_no (by decide), u_no (by decide), u_no (by decide), u_no (by decide), u_at]) g2 g3 g6 g7 nk 0 none (Nat.le_refl nk) (fun i _ h => by rw [zms_zero] at h; cases h)
      rw [zsum_none nk (fun i _ => zms_zero nk i), zsum_none nk (fun i _ => zms_zero nk i), zsum_none nk (fun i _ => zms_zero nk i), zsum_none nk (fun i _ => zms_zero nk i), zcnt_N, zsN_congr nk (q := fun _ => false) (fun i _ => zms_zero nk i), zsN_zero nk, Nat.zero_mul] at ps
      rw [show qt_search (2 + nk) (nI nk - 1) (zload (I' 10) nk 0 (zset (zab (I' 10) 0) nk)) (ztilt (I' 10) nk 0 (zset (zab (I' 10) 0) nk)) (zload (I' 10) nk 1 (zset (zab (I' 10) 1) nk)) (ztilt (I' 10) nk 1 (zset (zab (I' 10) 1) nk)) 0 0 σ (zTh nk I2 none) J = _ from ps, zkV_s, zTh_8]
      -- the same test
      have eok : ∀ s m, zlst nk (fun i => zab (I' 10) 0 i || zab (I' 10) 1 i) (fun _ => 0) (fun m => !decide (D0 < zdr (zsum (fun i => -(zsg (I' 10) i (zhv (I' 10) i))) m.testBit (zload (I' 10) nk 0 (zset (zab (I' 10) 0) nk)) nk) (zsum (fun i => -(zsg (I' 10) i (ztl (I' 10) 0 i))) m.testBit (ztilt (I' 10) nk 0 (zset (zab (I' 10) 0) nk)) nk) (I' 10 (6 + 7 * 0 + 2)) (I' 10 (6 + 7 * 0 + 3))) && !decide (D1 < zdr (zsum (fun i => zsg (I' 10) i (zhv (I' 10) i)) m.testBit (zload (I' 10) nk 1 (zset (zab (I' 10) 1) nk)) nk) (zsum (fun i => zsg (I' 10) i (ztl (I' 10) 1 i)) m.testBit (ztilt (I' 10) nk 1 (zset (zab (I' 10) 1) nk)) nk) (I' 10 (6 + 7 * 1 + 2)) (I' 10 (6 + 7 * 1 + 3)))) s m = zlst nk (fun i => zab (I' 10) 0 i || zab (I' 10) 1 i) (fun _ => 0) (zok2 (I 3) (I' 10) nk ns dy a) s m := by
        intro s m
        refine zlst_ok (fun hsb => ?_)
        · have h0 : zdrB (I' 10) nk 0 ((zset (zab (I' 10) 0) nk &&& (nI m ^^^ (-1))) ||| (zset (zab (I' 10) 1) nk &&& nI m)) = zdr (zsum (fun i => -(zsg (I' 10) i (zhv (I' 10) i))) m.testBit (zload (I' 10) nk 0 (zset (zab (I' 10) 0) nk)) nk) (zsum (fun i => -(zsg (I' 10) i (ztl (I' 10) 0 i))) m.testBit (ztilt (I' 10) nk 0 (zset (zab (I' 10) 0) nk)) nk) (I' 10 (6 + 7 * 0 + 2)) (I' 10 (6 + 7 * 0 + 3)) := by
            unfold zdrB
            rw [show zload (I' 10) nk 0 ((zset (zab (I' 10) 0) nk &&& (nI m ^^^ (-1))) ||| (zset (zab (I' 10) 1) nk &&& nI m)) = _ from z_swap0 n1 _ _ hsb, show ztilt (I' 10) nk 0 ((zset (zab (I' 10) 0) nk &&& (nI m ^^^ (-1))) ||| (zset (zab (I' 10) 1) nk &&& nI m)) = _ from z_swap0 n1 _ _ hsb]
            rfl
          have h1 : zdrB (I' 10) nk 1 ((zset (zab (I' 10) 1) nk &&& (nI m ^^^ (-1))) ||| (zset (zab (I' 10) 0) nk &&& nI m)) = zdr (zsum (fun i => zsg (I' 10) i (zhv (I' 10) i)) m.testBit (zload (I' 10) nk 1 (zset (zab (I' 10) 1) nk)) nk) (zsum (fun i => zsg (I' 10) i (ztl (I' 10) 1 i)) m.testBit (ztilt (I' 10) nk 1 (zset (zab (I' 10) 1) nk)) nk) (I' 10 (6 + 7 * 1 + 2)) (I' 10 (6 + 7 * 1 + 3)) := by
            unfold zdrB
            rw [show zload (I' 10) nk 1 ((zset (zab (I' 10) 1) nk &&& (nI m ^^^ (-1))) ||| (zset (zab (I' 10) 0) nk &&& nI m)) = _ from z_swap1 n1 _ _ hsb, show ztilt (I' 10) nk 1 ((zset (zab (I' 10) 1) nk &&& (nI m ^^^ (-1))) ||| (zset (zab (I' 10) 0) nk &&& nI m)) = _ from z_swap1 n1 _ _ hsb]
            rfl
          have eo : (!decide (D0 < zdr (zsum (fun i => -(zsg (I' 10) i (zhv (I' 10) i))) m.testBit (zload (I' 10) nk 0 (zset (zab (I' 10) 0) nk)) nk) (zsum (fun i => -(zsg (I' 10) i (ztl (I' 10) 0 i))) m.testBit (ztilt (I' 10) nk 0 (zset (zab (I' 10) 0) nk)) nk) (I' 10 (6 + 7 * 0 + 2)) (I' 10 (6 + 7 * 0 + 3))) && !decide (D1 < zdr (zsum (fun i => zsg (I' 10) i (zhv (I' 10) i)) m.testBit (zload (I' 10) nk 1 (zset (zab (I' 10) 1) nk)) nk) (zsum (fun i => zsg (I' 10) i (ztl (I' 10) 1 i)) m.testBit (ztilt (I' 10) nk 1 (zset (zab (I' 10) 1) nk)) nk) (I' 10 (6 + 7 * 1 + 2)) (I' 10 (6 + 7 * 1 + 3)))) = zok2 (I 3) (I' 10) nk ns dy a m := by
            rw [← h0, ← h1]
            unfold zok2
            congr 1
            · by_cases q : a + 1 < ns
              · rw [if_pos q] at hD0
                rw [← hD0, decide_eq_false (show ¬ ns ≤ a + 1 by omega), Bool.false_or]
              · rw [if_neg q] at hD0
                rw [← hD0, decide_eq_true (show ns ≤ a + 1 by omega), Bool.true_or, decide_eq_false (zdrB_9 G.1.ns G.2.1 (by omega) _)]
                rfl
            · by_cases q : a = 0
              · rw [if_pos q] at hD1
                rw [← hD1, decide_eq_true q, Bool.true_or, decide_eq_false (zdrB_9 G.1.ns G.2.1 (by omega) _)]
                rfl
              · rw [if_neg q] at hD1
                rw [← hD1, decide_eq_false q, Bool.false_or]
          exact eo
      rw [funext (fun s => funext (eok s)), zdfs_fo, Nat.zero_mul]
      have hl := zlst_lt (nk := nk) (ab := (fun i => zab (I' 10) 0 i || zab (I' 10) 1 i)) (w := (fun _ => 0)) (ok := zok2 (I 3) (I' 10) nk ns dy a) (2 ^ nk)
      generalize zfo _ 0 (2 ^ nk) none = s at hl ⊢
      have keep : ∀ i, i < 7 ∨ i = 25 ∨ 47 ≤ i → zTh nk I2 s i = I i := fun i hi => by
        rw [zTh_r (by omega), f2 i (by omega) (by omega) (by omega), zrI_ne _ _ (by omega)]
      have hp := z_pow12 n1
      cases s with
      | none =>
        rw [show zL8 none = -1 from rfl, if_pos rfl, zkI_s, if_pos rfl]
        exact zDo_scr H rfl rfl keep (fun _ _ => rfl) (fun _ _ => rfl)
      | some q =>
        have hq := hl q rfl
        rw [show zL8 (some q) = nI q from rfl, if_neg (znm (by omega)), zkI_s, if_neg z10, zTh_8]
        exact zDo_scr H rfl rfl keep (fun _ _ => rfl) (fun _ _ => rfl)
    · rw [if_neg qe, if_neg qe, zkI_s, if_pos rfl]
      exact zDo_same H ⟨_, rfl, rfl⟩
  · have q3 : ¬ nI nb = (2 : Int32) := fun e => q2 (znI (b := 2) (by omega) (by decide) e)
    rw [if_neg q3, zkI_s, if_pos rfl, if_pos (show nI nb < (2 : Int32) from nI_lt (b := 2) (by omega) (by decide))]
    exact zDo_same H ⟨_, rfl, rfl⟩
