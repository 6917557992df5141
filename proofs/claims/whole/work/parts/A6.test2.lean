/-! ===== a rule: a test, in both ===== -/
/-- the reference behind a fact, nothing to be closed -/
theorem zG0_r {Q : List Nat} {I : zTI} {J : zTJ} {t p q : Nat} {B : Nat → Nat} {C : Nat → Int32} (K : zSk Q I) (hQ : Q.length ≤ 400) (h3 : ∀ Q1 x, Q = Q1 ++ [x] → zsr x < 3 ∧ x < 1000) (hs : ∀ x, x ∈ Q → x < 1000) (T : zTxt t B C (I 1)) (e1 : I 0 1 = nI t) (e9 : I 0 9 = nI p) (hp : p ≤ t) (hz : zru (zbl B) t p = q) (hn : ¬ ((q < t ∧ B q = 93) ∧ 91 ∈ Q)) : zG0 I J = zAf (zsI I 0 9 (nI q)) J := by
  have hB : q < t → B q < 256 := fun h => (T.2 q h).1
  unfold zG0
  rw [t_qm_closes, p_set0 (y := 3) (s := 3) rfl (by omega) K hQ h3, zkV_s, t_qm_closes_5, p_see T p I e9 e1 rfl hp, zkI_s, hz]
  by_cases h : q < t ∧ B q = 93
  · rw [if_pos (show zby B t q = 93 from (zby_eq hB (s := 93) (by omega)).1.mpr h), p_inside (zSk_c K (zsI_no _ _ _ (by decide)) (zsI_ne _ _ _ (by decide))) hQ hs, zkI_s, if_neg (show ¬ 91 ∈ Q from fun h' => hn ⟨h, h'⟩), if_pos rfl, zkV_s]
  · rw [if_neg (show ¬ zby B t q = 93 from fun e => h ((zby_eq hB (s := 93) (by omega)).1.mp e)), zkV_s]
/-- a bracket is closed -/
theorem zG0_c {Q : List Nat} {I I1 : zTI} {J : zTJ} {t p q : Nat} {B : Nat → Nat} {C : Nat → Int32} (K : zSk Q I) (hQ : Q.length ≤ 400) (h3 : ∀ Q1 x, Q = Q1 ++ [x] → zsr x < 3 ∧ x < 1000) (hs : ∀ x, x ∈ Q → x < 1000) (T : zTxt t B C (I 1)) (e1 : I 0 1 = nI t) (e9 : I 0 9 = nI p) (hp : p ≤ t) (hz : zru (zbl B) t p = q) (h : q < t ∧ B q = 93) (hm : 91 ∈ Q) (hS : qm_settles 1 (zsI I 0 9 (nI q)) J = some (none, (zSM, I1, J))) : zG0 I J = zG0 (zsI (zsI (zsI I1 0 17 ((I1 0 17) - 1)) 0 14 ((I1 0 14) - 1)) 0 9 ((I1 0 9) + 1)) J := by
  have hB : q < t → B q < 256 := fun h => (T.2 q h).1
  unfold zG0
  rw [t_qm_closes, p_set0 (y := 3) (s := 3) rfl (by omega) K hQ h3, zkV_s, t_qm_closes_5, p_see T p I e9 e1 rfl hp, zkI_s, hz, if_pos (show zby B t q = 93 from (zby_eq hB (s := 93) (by omega)).1.mpr h), p_inside (zSk_c K (zsI_no _ _ _ (by decide)) (zsI_ne _ _ _ (by decide))) hQ hs, zkI_s, if_pos hm, if_neg z10, hS, zkV_s, ← t_qm_closes]
theorem zmem91 {Q0 : List Nat} {fo fa : Bool} (h : 91 ∈ Q0 ++ zqfl fo fa) : 91 ∈ Q0 := by
  rcases List.mem_append.mp h with h | h
  · exact h
  · cases fo <;> cases fa <;> simp [zqfl] at h
theorem zfl_lt {fo fa : Bool} : ∀ x, x ∈ zqfl fo fa → x < 1000 := by
  cases fo <;> cases fa <;> decide
theorem zAf_and {I : zTI} {J : zTJ} {t q : Nat} {B : Nat → Nat} {C : Nat → Int32} (T : zTxt t B C (I 1)) (e1 : I 0 1 = nI t) (e9 : I 0 9 = nI q) (hq : q ≤ t) (hz : zru (zbl B) t q = q) (hv : zww B t q = [97, 110, 100]) : zAf I J = zkV (qm_settles 2 (zsI I 0 9 (nI (zru (zlr B) t q))) J) zSM (fun I55 J56 => (zif (zin (I55 0 17) 400) (zF0 (zsI (zsI I55 7 ((I55 0 17).toNatClampNeg) 12) 0 17 ((I55 0 17) + 1)) J56))) := by
  unfold zAf
  rw [p_wt (X := 6385252) (l := [97, 110, 100]) hv T e1 e9 hq hz rfl (by decide) (by decide) (by decide), zkI_s, if_neg z10, p_wt (X := 6385252) (l := [97, 110, 100]) hv T e1 e9 hq hz rfl (by decide) (by decide) (by decide), zkI_s, if_neg z10, p_pass T q I e9 e1 rfl hq, zkV_s, show ∀ X : zTI, qm_strength 12 X J = _ from fun X => p_str (x := 12) (by omega), zkI_s]
  simp only [t_12]
  rfl
theorem zAf_or {I : zTI} {J : zTJ} {t q : Nat} {B : Nat → Nat} {C : Nat → Int32} (T : zTxt t B C (I 1)) (e1 : I 0 1 = nI t) (e9 : I 0 9 = nI q) (hq : q ≤ t) (hz : zru (zbl B) t q = q) (hv : zww B t q = [111, 114]) : zAf I J = zkV (qm_settles 1 (zsI I 0 9 (nI (zru (zlr B) t q))) J) zSM (fun I55 J56 => (zif (zin (I55 0 17) 400) (zF0 (zsI (zsI I55 7 ((I55 0 17).toNatClampNeg) 13) 0 17 ((I55 0 17) + 1)) J56))) := by
  unfold zAf
  rw [p_wf (X := 6385252) (l := [97, 110, 100]) (by rw [hv]; decide) T e1 e9 hq hz rfl (by decide) (by decide) (by decide), zkI_s, if_pos rfl, p_wt (X := 28530) (l := [111, 114]) hv T e1 e9 hq hz rfl (by decide) (by decide) (by decide), zkI_s, if_neg z10, p_wf (X := 6385252) (l := [97, 110, 100]) (by rw [hv]; decide) T e1 e9 hq hz rfl (by decide) (by decide) (by decide), zkI_s, if_pos rfl, p_pass T q I e9 e1 rfl hq, zkV_s, show ∀ X : zTI, qm_strength 13 X J = _ from fun X => p_str (x := 13) (by omega), zkI_s]
  simp only [t_12]
  rfl
theorem zAf_end {I : zTI} {J : zTJ} {t q : Nat} {B : Nat → Nat} {C : Nat → Int32} (T : zTxt t B C (I 1)) (e1 : I 0 1 = nI t) (e9 : I 0 9 = nI q) (hq : q ≤ t) (hz : zru (zbl B) t q = q) (hv : zww B t q ≠ [97, 110, 100]) (hv2 : zww B t q ≠ [111, 114]) : zAf I J = qm_tested_12 0 I J := by
  unfold zAf
  rw [p_wf (X := 6385252) (l := [97, 110, 100]) hv T e1 e9 hq hz rfl (by decide) (by decide) (by decide), zkI_s, if_pos rfl, p_wf (X := 28530) (l := [111, 114]) hv2 T e1 e9 hq hz rfl (by decide) (by decide) (by decide), zkI_s, if_pos rfl]
theorem zfl_len {fo fa : Bool} : (zbl1 fa 200009).length + (zbl1 fo 200010).length = (zqfl fo fa).length := by cases fo <;> cases fa <;> rfl
set_option maxHeartbeats 32000000 in
theorem p_testL {σ : zSg} {J J' : zTJ} {t : Nat} {B : Nat → Nat} {tt k : Nat} (htt : tt < 6) (hk : k ≤ 10) (hF : zFo σ J J' t B tt k) : ∀ n, ∀ (fo fa : Bool) (Q0 : List Nat) (v p m : Nat) (L : List Nat) (I I' : zTI), t + 1 - p ≤ n → zRd t B tt p L m I I' → zSk (Q0 ++ zqfl fo fa) I' → (∀ x, x ∈ Q0 → x < 1000) → (Q0 = [] ∨ (1 ≤ k ∧ ∃ Q, Q0 = Q ++ [91])) → I' 0 14 = nI k → L.length + (Q0 ++ zqfl fo fa).length ≤ p → v ≤ m → ∃ r I1, qu_readTest_7 (9 + 2 * (12 - k)) (nI k) (zb1 fa) (zb1 fo) (nI v) σ I J = some (some (.int r), (zSC σ, I1, J)) ∧ zHc I I1 ∧ ((r = 0 ∧ ∃ I1', zF0 I' J' = some (some (.int 0), (zSM, I1', J')) ∧ zHt tt I' I1' ∧ zBad 11 I1 I1') ∨ (r = 1 ∧ ∃ q m1 L1, zTxt t B (I1 12) (I' 1) ∧ I1 11 1 = nI t ∧ I1 11 2 = nI q ∧ q ≤ t ∧ p < q ∧ m < m1 ∧ L1.length + p ≤ (zqfl fo fa).length + q ∧ (∀ ty, zty L1 (zqft fo fa ty) = some (true :: ty)) ∧ (Q0 = [] → ∃ I1', zF0 I' J' = some (some (.int 1), (zSM, I1', J')) ∧ zHt tt I' I1' ∧ zRd t B tt q (L ++ L1) m1 I1 I1') ∧ ∀ Q, Q0 = Q ++ [91] → ((q < t ∧ B q = 93 → ∃ I1', zF0 I' J' = zG0 I1' J' ∧ zHt tt I' I1' ∧ zRd t B tt (q + 1) (L ++ L1) m1 (zsI I1 11 2 (nI (zru (zbl B) t (q + 1)))) I1' ∧ zSk Q I1' ∧ I1' 0 14 = nI (k - 1)) ∧ (¬ (q < t ∧ B q = 93) → ∃ I1', zF0 I' J' = some (some (.int 0), (zSM, I1', J')) ∧ zHt tt I' I1' ∧ I1' 0 10 = nI (1 + 8 * q + 0))))) := by
  intro n
  induction n with
  | zero =>
    intro fo fa Q0 v p m L I I' hn H
    have := H.1.2.2.2.2.1
    omega
  | succ n ih =>
    intro fo fa Q0 v p m L I I' hn H K hQ hb e14 hL hv
    have hb' : Q0 = [] ∨ ∃ Q, Q0 = Q ++ [91] := hb.imp id (fun h => h.2)
    have hm60 := H.2.2.2.2.1
    have hpt := H.1.2.2.2.2.1
    have ht := H.1.2.2.2.2.2.1.1
    have hQs : ∀ x, x ∈ Q0 ++ zqfl fo fa → x < 1000 := fun x hx => by
      rcases List.mem_append.mp hx with h | h
      · exact hQ x h
      · exact zfl_lt x h
    obtain ⟨r, I1, f1, f2, f3⟩ := hF (Q0 ++ zqfl fo fa) p m L I I' H K hQs e14 hL
    rw [t_test7, if_neg (show ¬ (60 : Int32) < nI v from fun h => by have := (nI_ltI (a := 60) (by omega) (by omega)).mp h; omega), zak56 (by omega) (by omega), f1, zkI_s]
    rcases f3 with ⟨rfl, I1', g1, g2, g3⟩ | ⟨rfl, I1', p1, m1, L1, g1, g2, g3, g4, g5, g6, g7, g8, g9⟩
    · rw [if_pos rfl]
      exact ⟨0, I1, rfl, f2, Or.inl ⟨rfl, I1', g1, g2, g3⟩⟩
    rw [if_neg z10, zak53 (by omega), g1]
    obtain ⟨⟨a1, a2, b1, b2, hp, T, b10⟩, C, e9, e13, hm, hnv⟩ := id g3
    obtain ⟨ck, cn, cv⟩ := zCo_i.mp C
    have hq := zru_le (P := zbl B) (t := t) p1 hp
    have hpq := zru_ge (P := zbl B) (t := t) p1
    have hz := zru_id (P := zbl B) (t := t) (p := p1)
    have hll : (L ++ L1).length + (Q0 ++ zqfl fo fa).length ≤ p1 := by rw [List.length_append]; omega
    have hll2 := hll
    rw [List.length_append (as := Q0)] at hll2
    have hfl := zfl_len (fo := fo) (fa := fa)
    obtain ⟨I2, c1, c2, c3, c4⟩ := p_optC (σ := σ) (J := J) (b := fa) (y := 200009) (z := 200009) rfl ck (by omega)
    have hc1 := c1 (fun I J => zCt (9 + 2 * (12 - k)) (nI k) (zb1 fo) (nI v) σ I J)
    rw [hc1]
    have h3 : ∀ Q1 x, Q0 ++ zqfl fo fa = Q1 ++ [x] → zsr x < 3 ∧ x < 1000 := fun Q1 x e => by
      rcases zbs_fl hb' Q1 x e with ⟨-, rfl⟩ | ⟨-, -, rfl⟩ | ⟨-, -, rfl⟩ <;> exact ⟨by decide, by omega⟩
    have T2 : zTxt t B (I2 12) (I1' 1) := by rw [c3.1 12 (by decide) (by decide)]; exact T
    have i1 : I2 11 1 = nI t := by rw [c4 1 (by decide)]; exact a1
    have i2 : I2 11 2 = nI (zru (zbl B) t p1) := by rw [c4 2 (by decide)]; exact a2
    have kT : zTxt t B (I1 12) (zsI I1' 0 9 (nI (zru (zbl B) t p1)) 1) := by rw [zsI_ne _ _ _ (by decide)]; exact T
    have k1 : zsI I1' 0 9 (nI (zru (zbl B) t p1)) 0 1 = nI t := by rw [zsI_no _ _ _ (by decide)]; exact b1
    have k9 : zsI I1' 0 9 (nI (zru (zbl B) t p1)) 0 9 = nI (zru (zbl B) t p1) := zsI_at _ _ _ _
    have kS : zSk (Q0 ++ zqfl fo fa) (zsI I1' 0 9 (nI (zru (zbl B) t p1))) := zSk_c g4 (zsI_no _ _ _ (by decide)) (zsI_ne _ _ _ (by decide))
    have gK : zHt tt I' (zsI I1' 0 9 (nI (zru (zbl B) t p1))) := g2.tr (zHt.s (by omega))
    have hle := zru_le (P := zlr B) (t := t) (zru (zbl B) t p1) hq
    have hge := zru_ge (P := zlr B) (t := t) (zru (zbl B) t p1)
    by_cases hA : zww B t (zru (zbl B) t p1) = [97, 110, 100]
    · have hlt := zww_lt (B := B) (t := t) (q := zru (zbl B) t p1) (by rw [hA]; simp)
      have hB0 := zww_0 hq hA
      rw [p_ctA (by omega) T2 i1 i2 hq hA, zG0_r g4 (by omega) h3 hQs T b1 b2 hp rfl (fun h => by have := h.1.2; omega), zAf_and kT k1 k9 hq hz hA, zsI_sI, nI_1]
      have cn2 : zCn tt (L ++ L1) (zsI I1' 0 9 (nI (zru (zlr B) t (zru (zbl B) t p1)))) := ⟨by rw [zsI_no _ _ _ (by decide)]; exact cn.1, by rw [zsI_ne _ _ _ (by decide)]; exact cn.2.1, by rw [zsI_ne _ _ _ (by decide)]; exact cn.2.2⟩
      obtain ⟨K3, s1, s2, s3, s4, s5, s6⟩ := p_settA (J := J') (fo := fo) (fa := fa) htt hb' cn2 (zSk_c g4 (zsI_no _ _ _ (by decide)) (zsI_ne _ _ _ (by decide))) (by rw [zsI_no _ _ _ (by decide)]; exact g5) (by omega)
      have hl3 : (Q0 ++ zqfl fo false).length + 1 ≤ (Q0 ++ zqfl fo true).length ∧ (zqfl fo true).length = (zqfl fo false).length + 1 ∧ (zbl1 fa 200009).length + (zqfl fo false).length = (zqfl fo fa).length := by
        rw [List.length_append, List.length_append]
        cases fo <;> cases fa <;> exact ⟨Nat.le_refl _, rfl, rfl⟩
      have hl4 : (Q0 ++ zqfl fo false).length < 400 := by rw [List.length_append]; omega
      rw [s1, zkV_s, s3.1, zif_n hl4 (by omega), ztnn (by omega), nI_1]
      have hst : zSk (Q0 ++ zqfl fo true) (zsI (zsI K3 7 (Q0 ++ zqfl fo false).length 12) 0 17 (nI ((Q0 ++ zqfl fo false).length + 1))) := by
        have e : Q0 ++ zqfl fo true = Q0 ++ zqfl fo false ++ [12] := by
          rw [List.append_assoc]
          cases fo <;> rfl
        rw [e]
        exact zSk_s s3 (by rw [zsI_ne _ _ _ (by decide), zsI_row]; rfl) (zsI_at _ _ _ _)
      have HN : zRd t B tt (zru (zlr B) t (zru (zbl B) t p1)) (L ++ L1 ++ zbl1 fa 200009) m1 (zsI I2 11 2 (nI (zru (zbl B) t (zru (zlr B) t (zru (zbl B) t p1))))) (zsI (zsI K3 7 (Q0 ++ zqfl fo false).length 12) 0 17 (nI ((Q0 ++ zqfl fo false).length + 1))) := zRd_mk g3 hle (by rw [zsI_no _ _ _ (by decide), c4 1 (by decide)]) (zsI_at _ _ _ _) (by rw [zsI_no _ _ _ (by decide), c4 9 (by decide)]) (by rw [zsI_no _ _ _ (by decide), c4 4 (by decide)]) (by rw [zsI_ne _ _ _ (by decide), c3.1 12 (by decide) (by decide)]) (by rw [zsI_ne _ _ _ (by decide), zsI_ne _ _ _ (by decide), s4.1 1 (by decide) (by decide) (by decide) (by decide), zsI_ne _ _ _ (by decide)]) (by rw [zsI_no _ _ _ (by decide), zsI_ne _ _ _ (by decide), s6 9 (by decide), zsI_at]) (fun j hj => by rw [zsI_no _ _ _ (by omega), zsI_ne _ _ _ (by decide), s6 j (by omega), zsI_no _ _ _ (by omega)]) (fun x hx => by rw [zbl1_m hx]; omega) ⟨by rw [zsI_no _ _ _ (by decide)]; exact c2.1, by rw [zsI_ne _ _ _ (by decide)]; exact c2.2⟩ ⟨by rw [zsI_no _ _ _ (by decide), zsI_ne _ _ _ (by decide)]; exact s2.1, by rw [zsI_ne _ _ _ (by decide), zsI_ne _ _ _ (by decide)]; exact s2.2.1, by rw [zsI_ne _ _ _ (by decide), zsI_ne _ _ _ (by decide)]; exact s2.2.2⟩
      obtain ⟨r, I4, w1, w2, w3⟩ := ih fo true Q0 (v + 1) _ m1 _ _ _ (by omega) HN hst hQ hb (by rw [zsI_no _ _ _ (by decide), zsI_ne _ _ _ (by decide), s6 14 (by decide), zsI_no _ _ _ (by decide)]; exact g5) (by rw [List.length_append (bs := zbl1 fa 200009), List.length_append (as := Q0)]; omega) (by omega)
      rw [show qu_readTest_7 (9 + 2 * (12 - k)) (nI k) 1 (zb1 fo) (nI (v + 1)) σ _ J = _ from w1]
      have gt : zHt tt I' (zsI (zsI K3 7 (Q0 ++ zqfl fo false).length 12) 0 17 (nI ((Q0 ++ zqfl fo false).length + 1))) := (((g2.tr (zHt.s (by omega))).tr s4).tr zHt.s7).tr (zHt.s (by omega))
      refine ⟨r, I4, rfl, ((f2.tr c3).tr (zHc.s (by omega))).tr w2, ?_⟩
      rcases w3 with ⟨hr, I4', x1, x2, x3⟩ | ⟨hr, q4, m4, L4, x1, x2, x3, x4, x5, x6, x7, x8, x9, x10⟩
      · exact Or.inl ⟨hr, I4', x1, gt.tr x2, x3⟩
      · refine Or.inr ⟨hr, q4, m4, L1 ++ zbl1 fa 200009 ++ L4, ?_, x2, x3, x4, by omega, by omega, ?_, fun ty => ?_, fun h0 => ?_, fun Q hQ' => ?_⟩
        · rw [show (zsI (zsI K3 7 (Q0 ++ zqfl fo false).length 12) 0 17 (nI ((Q0 ++ zqfl fo false).length + 1))) 1 = I' 1 from gt.1 1 (by decide) (by decide) (by decide) (by decide)] at x1
          exact x1
        · rw [List.length_append, List.length_append]
          omega
        · rw [zty_app (L1 ++ zbl1 fa 200009) L4 _ (true :: zqft fo false ty) (by rw [zty_app L1 _ _ _ (g9 _)]; exact zty_and)]
          have e : zqft fo true ty = true :: zqft fo false ty := by cases fo <;> rfl
          rw [← e]
          exact x8 ty
        · obtain ⟨I4', y1, y2, y3⟩ := x9 h0
          exact ⟨I4', y1, gt.tr y2, by rw [← List.append_assoc, ← List.append_assoc]; exact y3⟩
        · obtain ⟨y1, y2⟩ := x10 Q hQ'
          refine ⟨fun h => ?_, fun h => ?_⟩
          · obtain ⟨I4', z1, z2, z3, z4, z5⟩ := y1 h
            exact ⟨I4', z1, gt.tr z2, by rw [← List.append_assoc, ← List.append_assoc]; exact z3, z4, z5⟩
          · obtain ⟨I4', z1, z2, z3⟩ := y2 h
            exact ⟨I4', z1, gt.tr z2, z3⟩
    rw [p_ctN (by omega) T2 i1 i2 hq hA]
    obtain ⟨I3, d1, d2, d3, d4⟩ := p_optC (σ := σ) (J := J) (b := fo) (y := 200010) (z := 200010) rfl c2 (by rw [List.length_append]; omega)
    have hd1 := d1 (fun I1 J1 => zC2 (9 + 2 * (12 - k)) (nI k) (nI v) σ I1 J1)
    rw [hd1]
    have T3 : zTxt t B (I3 12) (I1' 1) := by rw [d3.1 12 (by decide) (by decide)]; exact T2
    have j1 : I3 11 1 = nI t := by rw [d4 1 (by decide)]; exact i1
    have j2 : I3 11 2 = nI (zru (zbl B) t p1) := by rw [d4 2 (by decide)]; exact i2
    by_cases hO : zww B t (zru (zbl B) t p1) = [111, 114]
    · have hlt := zww_lt (B := B) (t := t) (q := zru (zbl B) t p1) (by rw [hO]; simp)
      have hB0 := zww_0 hq hO
      rw [p_c2O T3 j1 j2 hq hO, zG0_r g4 (by omega) h3 hQs T b1 b2 hp rfl (fun h => by have := h.1.2; omega), zAf_or kT k1 k9 hq hz hO, zsI_sI, nI_1]
      have cn2 : zCn tt (L ++ L1) (zsI I1' 0 9 (nI (zru (zlr B) t (zru (zbl B) t p1)))) := ⟨by rw [zsI_no _ _ _ (by decide)]; exact cn.1, by rw [zsI_ne _ _ _ (by decide)]; exact cn.2.1, by rw [zsI_ne _ _ _ (by decide)]; exact cn.2.2⟩
      obtain ⟨K3, s1, s2, s3, s4, s5, s6⟩ := p_settO (J := J') (fo := fo) (fa := fa) htt hb' cn2 (zSk_c g4 (zsI_no _ _ _ (by decide)) (zsI_ne _ _ _ (by decide))) (by rw [zsI_no _ _ _ (by decide)]; exact g5) (by omega)
      rw [s1, zkV_s, s3.1, zif_n (by omega) (by omega), ztnn (by omega), nI_1]
      have hst : zSk (Q0 ++ zqfl true false) (zsI (zsI K3 7 Q0.length 13) 0 17 (nI (Q0.length + 1))) := zSk_s s3 (by rw [zsI_ne _ _ _ (by decide), zsI_row]; rfl) (zsI_at _ _ _ _)
      have HN : zRd t B tt (zru (zlr B) t (zru (zbl B) t p1)) (L ++ L1 ++ (zbl1 fa 200009 ++ zbl1 fo 200010)) m1 (zsI I3 11 2 (nI (zru (zbl B) t (zru (zlr B) t (zru (zbl B) t p1))))) (zsI (zsI K3 7 Q0.length 13) 0 17 (nI (Q0.length + 1))) := zRd_mk g3 hle (by rw [zsI_no _ _ _ (by decide), d4 1 (by decide), c4 1 (by decide)]) (zsI_at _ _ _ _) (by rw [zsI_no _ _ _ (by decide), d4 9 (by decide), c4 9 (by decide)]) (by rw [zsI_no _ _ _ (by decide), d4 4 (by decide), c4 4 (by decide)]) (by rw [zsI_ne _ _ _ (by decide), d3.1 12 (by decide) (by decide), c3.1 12 (by decide) (by decide)]) (by rw [zsI_ne _ _ _ (by decide), zsI_ne _ _ _ (by decide), s4.1 1 (by decide) (by decide) (by decide) (by decide), zsI_ne _ _ _ (by decide)]) (by rw [zsI_no _ _ _ (by decide), zsI_ne _ _ _ (by decide), s6 9 (by decide), zsI_at]) (fun j hj => by rw [zsI_no _ _ _ (by omega), zsI_ne _ _ _ (by decide), s6 j (by omega), zsI_no _ _ _ (by omega)]) (fun x hx => by
        rcases List.mem_append.mp hx with h | h
        · rw [zbl1_m h]; omega
        · rw [zbl1_m h]; omega) (by rw [← List.append_assoc]; exact ⟨by rw [zsI_no _ _ _ (by decide)]; exact d2.1, by rw [zsI_ne _ _ _ (by decide)]; exact d2.2⟩) (by rw [← List.append_assoc]; exact ⟨by rw [zsI_no _ _ _ (by decide), zsI_ne _ _ _ (by decide)]; exact s2.1, by rw [zsI_ne _ _ _ (by decide), zsI_ne _ _ _ (by decide)]; exact s2.2.1, by rw [zsI_ne _ _ _ (by decide), zsI_ne _ _ _ (by decide)]; exact s2.2.2⟩)
      have hl5 : (zqfl true false).length = 1 := rfl
      obtain ⟨r, I4, w1, w2, w3⟩ := ih true false Q0 (v + 1) _ m1 _ _ _ (by omega) HN hst hQ hb (by rw [zsI_no _ _ _ (by decide), zsI_ne _ _ _ (by decide), s6 14 (by decide), zsI_no _ _ _ (by decide)]; exact g5) (by rw [List.length_append (bs := zbl1 fa 200009 ++ zbl1 fo 200010), List.length_append (as := zbl1 fa 200009), List.length_append (as := Q0)]; omega) (by omega)
      rw [show qu_readTest_7 (9 + 2 * (12 - k)) (nI k) 0 1 (nI (v + 1)) σ _ J = _ from w1]
      have gt : zHt tt I' (zsI (zsI K3 7 Q0.length 13) 0 17 (nI (Q0.length + 1))) := (((g2.tr (zHt.s (by omega))).tr s4).tr zHt.s7).tr (zHt.s (by omega))
      refine ⟨r, I4, rfl, (((f2.tr c3).tr d3).tr (zHc.s (by omega))).tr w2, ?_⟩
      rcases w3 with ⟨hr, I4', x1, x2, x3⟩ | ⟨hr, q4, m4, L4, x1, x2, x3, x4, x5, x6, x7, x8, x9, x10⟩
      · exact Or.inl ⟨hr, I4', x1, gt.tr x2, x3⟩
      · refine Or.inr ⟨hr, q4, m4, L1 ++ (zbl1 fa 200009 ++ zbl1 fo 200010) ++ L4, ?_, x2, x3, x4, by omega, by omega, ?_, fun ty => ?_, fun h0 => ?_, fun Q hQ' => ?_⟩
        · rw [show (zsI (zsI K3 7 Q0.length 13) 0 17 (nI (Q0.length + 1))) 1 = I' 1 from gt.1 1 (by decide) (by decide) (by decide) (by decide)] at x1
          exact x1
        · rw [List.length_append, List.length_append, List.length_append]
          omega
        · rw [zty_app (L1 ++ (zbl1 fa 200009 ++ zbl1 fo 200010)) L4 _ (true :: ty) (by rw [zty_app L1 _ _ _ (g9 _), zty_app (zbl1 fa 200009) _ _ _ zty_and]; exact zty_or)]
          exact x8 ty
        · obtain ⟨I4', y1, y2, y3⟩ := x9 h0
          exact ⟨I4', y1, gt.tr y2, by rw [← List.append_assoc, ← List.append_assoc]; exact y3⟩
        · obtain ⟨y1, y2⟩ := x10 Q hQ'
          refine ⟨fun h => ?_, fun h => ?_⟩
          · obtain ⟨I4', z1, z2, z3, z4, z5⟩ := y1 h
            exact ⟨I4', z1, gt.tr z2, by rw [← List.append_assoc, ← List.append_assoc]; exact z3, z4, z5⟩
          · obtain ⟨I4', z1, z2, z3⟩ := y2 h
            exact ⟨I4', z1, gt.tr z2, z3⟩
    rw [p_c2N T3 j1 j2 hq hO]
    have cnq : zCn tt (L ++ L1) (zsI I1' 0 9 (nI (zru (zbl B) t p1))) := ⟨by rw [zsI_no _ _ _ (by decide)]; exact cn.1, by rw [zsI_ne _ _ _ (by decide)]; exact cn.2.1, by rw [zsI_ne _ _ _ (by decide)]; exact cn.2.2⟩
    obtain ⟨K3, s1, s2, s3, s4, s5, s6⟩ := p_settO (J := J') (fo := fo) (fa := fa) htt hb' cnq kS (by rw [zsI_no _ _ _ (by decide)]; exact g5) (by omega)
    refine ⟨1, I3, rfl, (f2.tr c3).tr d3, Or.inr ⟨rfl, zru (zbl B) t p1, m1, L1 ++ (zbl1 fa 200009 ++ zbl1 fo 200010), ?_, j1, j2, hq, by omega, g7, ?_, fun ty => ?_, fun h0 => ?_, fun Q hQ' => ⟨fun h => ?_, fun h => ?_⟩⟩⟩
    · rw [g2.1 1 (by decide) (by decide) (by decide) (by decide)] at T3
      exact T3
    · rw [List.length_append, List.length_append]
      omega
    · rw [zty_app L1 _ _ _ (g9 _), zty_app (zbl1 fa 200009) _ _ _ zty_and]
      exact zty_or
    · subst h0
      rw [zG0_r g4 (by omega) h3 hQs T b1 b2 hp rfl (fun h => by have := zmem91 h.2; simp at this), zAf_end kT k1 k9 hq hz hA hO, t_qm_tested_12, if_pos rfl, p_inside kS (by omega) hQs, zkI_s, if_neg (show ¬ 91 ∈ ([] : List Nat) ++ zqfl fo fa from fun h => by have := zmem91 h; simp at this), if_pos rfl, s1, zkV_s]
      refine ⟨K3, rfl, gK.tr s4, ?_⟩
      rw [← List.append_assoc]
      exact zRd_mk (M := zbl1 fa 200009 ++ zbl1 fo 200010) g3 hq (by rw [d4 1 (by decide), c4 1 (by decide)]) (by rw [hz]; exact j2) (by rw [d4 9 (by decide), c4 9 (by decide)]) (by rw [d4 4 (by decide), c4 4 (by decide)]) (by rw [d3.1 12 (by decide) (by decide), c3.1 12 (by decide) (by decide)]) (by rw [s4.1 1 (by decide) (by decide) (by decide) (by decide), zsI_ne _ _ _ (by decide)]) (by rw [s6 9 (by decide), zsI_at]) (fun j hj => by rw [s6 j (by omega), zsI_no _ _ _ (by omega)]) (fun x hx => by
        rcases List.mem_append.mp hx with h | h
        · rw [zbl1_m h]; omega
        · rw [zbl1_m h]; omega) (by rw [← List.append_assoc]; exact d2) (by rw [← List.append_assoc]; exact s2)
    · subst hQ'
      have hk1 : 1 ≤ k := by
        rcases hb with h | h
        · exact absurd h (by simp)
        · exact h.1
      have hmem : 91 ∈ Q ++ [91] ++ zqfl fo fa := List.mem_append_left _ (List.mem_append_right _ (List.mem_singleton.mpr rfl))
      have hl6 : (Q ++ [91]).length = Q.length + 1 := by rw [List.length_append]; rfl
      have e17 : K3 0 17 - 1 = nI Q.length := by
        rw [s3.1, hl6]
        exact z_sub1 (k := 1) (by omega)
      have e14' : K3 0 14 - 1 = nI (k - 1) := by
        rw [s6 14 (by decide), zsI_no _ _ _ (by decide), g5]
        exact z_sub1 (k := 1) hk1
      rw [zG0_c g4 (by omega) h3 hQs T b1 b2 hp rfl h hmem s1, e17, e14', s6 9 (by decide), zsI_at, nI_1]
      refine ⟨_, rfl, (((gK.tr s4).tr (zHt.s (by omega))).tr (zHt.s (by omega))).tr (zHt.s (by omega)), ?_, ⟨?_, fun i hi => ?_⟩, ?_⟩
      · rw [← List.append_assoc]
        exact zRd_mk (M := zbl1 fa 200009 ++ zbl1 fo 200010) g3 (by omega) (by rw [zsI_no _ _ _ (by decide), d4 1 (by decide), c4 1 (by decide)]) (zsI_at _ _ _ _) (by rw [zsI_no _ _ _ (by decide), d4 9 (by decide), c4 9 (by decide)]) (by rw [zsI_no _ _ _ (by decide), d4 4 (by decide), c4 4 (by decide)]) (by rw [zsI_ne _ _ _ (by decide), d3.1 12 (by decide) (by decide), c3.1 12 (by decide) (by decide)]) (by rw [zsI_ne _ _ _ (by decide), zsI_ne _ _ _ (by decide), zsI_ne _ _ _ (by decide), s4.1 1 (by decide) (by decide) (by decide) (by decide), zsI_ne _ _ _ (by decide)]) (zsI_at _ _ _ _) (fun j hj => by rw [zsI_no _ _ _ (by omega), zsI_no _ _ _ (by omega), zsI_no _ _ _ (by omega), s6 j (by omega), zsI_no _ _ _ (by omega)]) (fun x hx => by
          rcases List.mem_append.mp hx with h | h
          · rw [zbl1_m h]; omega
          · rw [zbl1_m h]; omega) (by rw [← List.append_assoc]; exact ⟨by rw [zsI_no _ _ _ (by decide)]; exact d2.1, by rw [zsI_ne _ _ _ (by decide)]; exact d2.2⟩) (by rw [← List.append_assoc]; exact ⟨by rw [zsI_no _ _ _ (by decide), zsI_no _ _ _ (by decide), zsI_no _ _ _ (by decide)]; exact s2.1, by rw [zsI_ne _ _ _ (by decide), zsI_ne _ _ _ (by decide), zsI_ne _ _ _ (by decide)]; exact s2.2.1, by rw [zsI_ne _ _ _ (by decide), zsI_ne _ _ _ (by decide), zsI_ne _ _ _ (by decide)]; exact s2.2.2⟩)
      · rw [zsI_no _ _ _ (by decide), zsI_no _ _ _ (by decide), zsI_at]
      · rw [zsI_ne _ _ _ (by decide), zsI_ne _ _ _ (by decide), zsI_ne _ _ _ (by decide)]
        have := s3.2 i (by omega)
        rw [zat_l hi] at this
        exact this
      · rw [zsI_no _ _ _ (by decide), zsI_at]
    · subst hQ'
      have hmem : 91 ∈ Q ++ [91] ++ zqfl fo fa := List.mem_append_left _ (List.mem_append_right _ (List.mem_singleton.mpr rfl))
      have hc := zcode (p := zru (zbl B) t p1) (k := 0) (by omega) (by omega)
      rw [zG0_r g4 (by omega) h3 hQs T b1 b2 hp rfl (fun h' => h h'.1), zAf_end kT k1 k9 hq hz hA hO, t_qm_tested_12, if_pos rfl, p_inside kS (by omega) hQs, zkI_s, if_pos hmem, if_neg z10, p_see kT _ _ k9 k1 rfl hq, zkI_s, hz, zsI_sI, zsI_at, p_failM (by rw [zsI_no _ _ _ (by decide)]; exact b10)]
      exact ⟨_, rfl, gK.tr (zHt.s (by omega)), by rw [zsI_at]; exact hc.1⟩
/-- tests and facts at every depth -/
theorem p_tests {σ : zSg} {J J' : zTJ} {t : Nat} {B : Nat → Nat} {tt : Nat} (htt : tt < 6) : ∀ d k, k + d = 10 → zFo σ J J' t B tt k ∧ zTo σ J J' t B tt k := by
  intro d
  induction d with
  | zero =>
    intro k hk
    have hF : zFo σ J J' t B tt k := p_fact htt (by omega) (fun h => by omega) (fun h => by omega)
    exact ⟨hF, fun fo fa Q0 v p m L I I' => p_testL htt (by omega) hF (t + 1 - p) fo fa Q0 v p m L I I' (Nat.le_refl _)⟩
  | succ d ih =>
    intro k hk
    obtain ⟨h1, h2⟩ := ih (k + 1) (by omega)
    have hF : zFo σ J J' t B tt k := p_fact htt (by omega) (fun _ => h1) (fun _ => h2)
    exact ⟨hF, fun fo fa Q0 v p m L I I' => p_testL htt (by omega) hF (t + 1 - p) fo fa Q0 v p m L I I' (Nat.le_refl _)⟩
