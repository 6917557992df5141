/-! ===== a rule: any clause; its clauses one after another ===== -/
set_option maxHeartbeats 16000000 in
theorem p_clU {σ : zSg} {J J' : zTJ} {nc t tt p m : Nat} {B : Nat → Nat} {L : List Nat} {I I' : zTI} (H : zQl nc t B tt p L m I I') (htt : tt < 6) : ∃ r I1 I1', qu_readClause σ I J = some (some (.int r), (zSC σ, I1, J)) ∧ qm_clauseHere I' J' = some (some (.int r), (zSM, I1', J')) ∧ zOq nc t B tt L I I' r I1 I1' := by
  obtain ⟨HR, e8, e5, e15, hn, X0, hL⟩ := H
  have HQ := zRd_q HR
  obtain ⟨⟨a1, a2, b1, b2, hp, T, b10⟩, C, -⟩ := id HR
  have hq := zru_le (P := zbl B) (t := t) p hp
  have hpq := zru_ge (P := zbl B) (t := t) p
  have hz := zru_id (P := zbl B) (t := t) (p := p)
  have ht := T.1
  have gK : zIm_ tt I' (zsI I' 0 9 (nI (zru (zbl B) t p))) := zIm_.s0 (by omega)
  have k15 : zsI I' 0 9 (nI (zru (zbl B) t p)) 0 15 = nI nc := by rw [zsI_no _ _ _ (by decide)]; exact e15
  have k5 : zsI I' 0 9 (nI (zru (zbl B) t p)) 5 tt = nI nc := by rw [zsI_ne _ _ _ (by decide)]; exact e5
  have kX : zCx tt nc L (I 14) (zsI I' 0 9 (nI (zru (zbl B) t p)) 4) := by rw [zsI_ne _ _ _ (by decide)]; exact X0
  rw [t_qm_clauseHere, p_see T p I' b2 b1 rfl hp, zkI_s]
  have kL : L.length ≤ zru (zbl B) t p := by omega
  generalize zsI I' 0 9 (nI (zru (zbl B) t p)) = K at *
  obtain ⟨⟨-, -, k1, k9, -, kT, k10⟩, CK, -⟩ := id HQ
  have k12 := CK.2.1
  rw [k12, if_neg (show ¬ nI tt = (6 : Int32) from fun h => by have := znI (b := 6) (by omega) (by omega) h; omega), p_ds kT k1 k9 hq hz, zkI_s, k9, k15]
  have bad : ∀ (k : Nat) (x : Int32), x = nI k → k ≤ 4 → zOq nc t B tt L I I' 0 (zsI I 11 4 (1 + 8 * nI (zru (zbl B) t p) + x)) (zsI K 0 10 (1 + 8 * nI (zru (zbl B) t p) + x)) := fun k x hx hk => ⟨by decide, zIc.s (by omega), gK.tr (zIm_.s0 (by omega)), Or.inl ⟨rfl, zBad_of hx (by omega) hk⟩⟩
  rcases zwL_c (v := zww B t (zru (zbl B) t p)) with ⟨hx, -⟩ | hk
  · rw [hx, if_pos (show (-1 : Int32) < 0 by decide), p_failM k10, t_qu_readClause, p_am s11 zwL T a1 a2 hq (by decide) (by decide) (by decide) zwL_j zwL_b, zkI_s, hx, if_pos rfl, p_failC s11, a2]
    exact ⟨0, _, _, rfl, rfl, bad 0 0 rfl (by omega)⟩
  · have hne : zix (zww B t (zru (zbl B) t p)) zwL 0 ≠ -1 ∧ ¬ zix (zww B t (zru (zbl B) t p)) zwL 0 < 0 ∧ zww B t (zru (zbl B) t p) ≠ [] := by
      rcases hk with ⟨h1, h2⟩ | ⟨h1, h2⟩ | ⟨h1, h2⟩ <;> (rw [h2, h1]; exact ⟨by decide, by decide, by simp⟩)
    rw [if_neg hne.2.1]
    by_cases h12 : nc = 12
    · subst h12
      rw [if_pos (show nI 12 = (12 : Int32) from rfl), p_failM k10, t_qu_readClause, p_am s11 zwL T a1 a2 hq (by decide) (by decide) (by decide) zwL_j zwL_b, zkI_s, if_neg hne.1, e8, if_neg (show ¬ nI 12 < (12 : Int32) by decide), p_failC s11, a2]
      exact ⟨0, _, _, rfl, rfl, bad 4 4 rfl (by omega)⟩
    · rw [if_neg (show ¬ nI nc = (12 : Int32) from fun h => h12 (znI (b := 12) (by omega) (by omega) h)), nI_1]
      have hkw : zKw nc t B tt (zru (zbl B) t p) L m I (zsI K 0 15 (nI (nc + 1))) := ⟨zRd_e HQ (fun _ _ => rfl) rfl rfl (fun k hk => zsI_no _ _ _ (by omega)) (zsI_ne _ _ _ (by decide)) (zsI_ne _ _ _ (by decide)) (zsI_ne _ _ _ (by decide)), hz, e8, by rw [zsI_ne _ _ _ (by decide)]; exact k5, zsI_at _ _ _ _, by omega, by rw [zsI_ne _ _ _ (by decide)]; exact kX, kL, hne.2.2⟩
      have gK2 : zIm_ tt I' (zsI K 0 15 (nI (nc + 1))) := gK.tr (zIm_.s0 (by omega))
      have hds := p_ds (J := J') (I := zsI K 0 15 (nI (nc + 1))) (C := I 12) (B := B) (t := t) (q := zru (zbl B) t p) (by rw [zsI_ne _ _ _ (by decide)]; exact kT) (by rw [zsI_no _ _ _ (by decide)]; exact k1) (by rw [zsI_no _ _ _ (by decide)]; exact k9) hq hz
      rw [hds, zkI_s]
      rcases hk with ⟨h1, h2⟩ | ⟨h1, h2⟩ | ⟨h1, h2⟩
      · obtain ⟨r, I1, I1', f1, f2, f3⟩ := p_dL (σ := σ) (J := J) (J' := J') hkw htt h1
        rw [h2, f1, f2, zkI_s, zif_t f3.1]
        exact ⟨r, I1, I1', rfl, rfl, zOq_t f3 (fun _ _ _ _ => rfl) gK2⟩
      · obtain ⟨r, I1, I1', f1, f2, f3⟩ := p_dF (σ := σ) (J := J) (J' := J') hkw htt h1
        rw [h2, f1, f2, zkI_s, zif_t f3.1]
        exact ⟨r, I1, I1', rfl, rfl, zOq_t f3 (fun _ _ _ _ => rfl) gK2⟩
      · obtain ⟨r, I1, I1', f1, f2, f3⟩ := p_dS (σ := σ) (J := J) (J' := J') hkw htt h1
        rw [h2, f1, f2, zkI_s, zif_t f3.1]
        exact ⟨r, I1, I1', rfl, rfl, zOq_t f3 (fun _ _ _ _ => rfl) gK2⟩
/-- how reading a rule ends -/
def zFu (t : Nat) (B : Nat → Nat) (tt : Nat) (I I' : zTI) (r : Int32) (I1 I1' : zTI) : Prop := zIc I I1 ∧ zIm_ tt I' (zsI I1' 0 1 (I' 0 1)) ∧ I1' 0 1 = 0 ∧ ((r ≠ 0 ∧ I1' 0 10 = r) ∨ (r = 0 ∧ ∃ nc L, L.length ≤ 400 ∧ znv L ≤ 60 ∧ nc ≤ 12 ∧ I1 11 8 = nI nc ∧ I1' 5 tt = nI nc ∧ zCo tt L I1 I1' ∧ zCx tt nc L (I1 14) (I1' 4)))
theorem zIm_1 {tt : Nat} {I I1 : zTI} {x : Int32} (h : zIm_ tt I I1) : zIm_ tt I (zsI (zsI I1 0 1 x) 0 1 (I 0 1)) := by
  rw [zsI_sI]
  refine ⟨fun i a b c d e f => by rw [zsI_ne _ _ _ a]; exact h.1 i a b c d e f, fun k a b c d e f g => ?_, fun j hj => by rw [zsI_ne _ _ _ (by decide)]; exact h.2.2.1 j hj, fun j hj => by rw [zsI_ne _ _ _ (by decide)]; exact h.2.2.2.1 j hj, fun j hj => by rw [zsI_ne _ _ _ (by decide)]; exact h.2.2.2.2 j hj⟩
  by_cases q : k = 1
  · subst q
    rw [zsI_at]
  · rw [zsI_no _ _ _ q]
    exact h.2.1 k a b c d e f g
set_option maxHeartbeats 16000000 in
theorem p_parseU {σ : zSg} {J J' : zTJ} {t tt : Nat} {B : Nat → Nat} (htt : tt < 6) : ∀ (d nc p m : Nat) (L : List Nat) (I I' : zTI), nc + d = 12 → zQl nc t B tt p L m I I' → ∃ r I1 I1', qu_parse_26 1 (nI nc) σ I J = some (some (.int r), (zSC σ, I1, J)) ∧ (zkI (qm_clauseHere I' J') zSM (fun r3 I1 J2 => (qm_readsAll_35 r3 I1 J2))) = some (some (.int (if r = 0 then 1 else 0)), (zSM, I1', J')) ∧ zFu t B tt I I' r I1 I1' := by
  intro d
  induction d with
  | zero =>
    intro nc p m L I I' hd H
    obtain ⟨r, I1, I1', h1, h2, -, h3, h4, h5⟩ := p_clU (σ := σ) (J := J) (J' := J') H htt
    rcases h5 with ⟨rfl, hb, hb0⟩ | ⟨_, h, _⟩
    · rw [t_qu_parse_26, if_neg (show ¬ (12 : Int32) < nI nc from fun h => by have := (nI_ltI (a := 12) (by omega) (by omega)).mp h; omega), if_neg z10, h1, zkI_s, if_pos rfl, h2, zkI_s, t_qm_readsAll_35, if_pos rfl, if_pos rfl, if_pos rfl, if_neg hb0]
      exact ⟨_, I1, _, rfl, by rw [hb, if_neg hb0], h3, zIm_1 h4, zsI_at _ _ _ _, Or.inl ⟨by rw [hb]; exact hb0, by rw [zsI_no _ _ _ (by decide), hb]⟩⟩
    · omega
  | succ d ih =>
    intro nc p m L I I' hd H
    obtain ⟨r, I1, I1', h1, h2, -, h3, h4, h5⟩ := p_clU (σ := σ) (J := J) (J' := J') H htt
    rw [t_qu_parse_26, if_neg (show ¬ (12 : Int32) < nI nc from fun h => by have := (nI_ltI (a := 12) (by omega) (by omega)).mp h; omega), if_neg z10, h1, zkI_s, h2, zkI_s, t_qm_readsAll_35]
    rcases h5 with ⟨rfl, hb, hb0⟩ | ⟨rfl, hn, p1, m1, M1, H1⟩
    · rw [if_pos rfl, if_pos rfl, if_pos rfl, if_pos rfl, if_neg hb0]
      exact ⟨_, I1, _, rfl, by rw [hb, if_neg hb0], h3, zIm_1 h4, zsI_at _ _ _ _, Or.inl ⟨by rw [hb]; exact hb0, by rw [zsI_no _ _ _ (by decide), hb]⟩⟩
    · obtain ⟨HR, e8, e5, e15, hn1, X0, hL⟩ := id H1
      have HQ := zRd_q HR
      obtain ⟨⟨a1, a2, b1, b2, hp, T, b10⟩, C, -, -, -, hnv⟩ := id HR
      have hq := zru_le (P := zbl B) (t := t) p1 hp
      have hpq := zru_ge (P := zbl B) (t := t) p1
      have hz := zru_id (P := zbl B) (t := t) (p := p1)
      have ht := T.1
      rw [if_neg z10, if_neg z10, p_took s11 (x := 59) (s := 59) T a1 a2 hq rfl (by omega), p_see T p1 I1' b2 b1 rfl hp, zkI_s, zsI_at]
      have hB : zru (zbl B) t p1 < t → B (zru (zbl B) t p1) < 256 := fun h => (T.2 _ h).1
      have gK : zIm_ tt I' (zsI I1' 0 9 (nI (zru (zbl B) t p1))) := h4.tr (zIm_.s0 (by omega))
      have k15 : zsI I1' 0 9 (nI (zru (zbl B) t p1)) 0 15 = nI (nc + 1) := by rw [zsI_no _ _ _ (by decide)]; exact e15
      have k5 : zsI I1' 0 9 (nI (zru (zbl B) t p1)) 5 tt = nI (nc + 1) := by rw [zsI_ne _ _ _ (by decide)]; exact e5
      have kX : zCx tt (nc + 1) (L ++ M1) (I1 14) (zsI I1' 0 9 (nI (zru (zbl B) t p1)) 4) := by rw [zsI_ne _ _ _ (by decide)]; exact X0
      generalize zsI I1' 0 9 (nI (zru (zbl B) t p1)) = K at *
      obtain ⟨⟨-, -, k1, k9, -, kT, k10⟩, CK, -⟩ := id HQ
      by_cases h59 : zru (zbl B) t p1 < t ∧ B (zru (zbl B) t p1) = 59
      · rw [if_pos h59, zkI_s, if_pos (show zby B t (zru (zbl B) t p1) = (59 : Int32) from (zby_eq hB (s := 59) (by omega)).1.mpr h59), nI_1, nI_1]
        have HN := zRd_1 HQ h59.1
        obtain ⟨r, I2, I2', m1', m2, m3, m4, m5, m6⟩ := ih (nc + 1) (zru (zbl B) t p1 + 1) m1 (L ++ M1) (zsI I1 11 2 (nI (zru (zbl B) t (zru (zbl B) t p1 + 1)))) (zsI K 0 9 (nI (zru (zbl B) t p1 + 1))) (by omega) ⟨HN, by rw [zsI_no _ _ _ (by decide)]; exact e8, by rw [zsI_ne _ _ _ (by decide)]; exact k5, by rw [zsI_no _ _ _ (by decide)]; exact k15, hn1, by rw [zsI_ne _ _ _ (by decide), zsI_ne _ _ _ (by decide)]; exact kX, by omega⟩
        rw [m1', m2]
        refine ⟨r, I2, I2', rfl, rfl, (h3.tr (zIc.s (by omega))).tr m3, ?_, m5, m6⟩
        have e1 : zsI K 0 9 (nI (zru (zbl B) t p1 + 1)) 0 1 = I' 0 1 := (gK.tr (zIm_.s0 (by omega))).2.1 1 (by decide) (by decide) (by decide) (by decide) (by decide) (by decide) (by decide)
        rw [e1] at m4
        exact (gK.tr (zIm_.s0 (by omega))).tr m4
      · have hc := zcode (p := zru (zbl B) t p1) (k := 0) (by omega) (by omega)
        rw [if_neg h59, zkI_s, nI_1, if_neg (show ¬ zby B t (zru (zbl B) t p1) = (59 : Int32) from fun e => h59 ((zby_eq hB (s := 59) (by omega)).1.mp e)), if_neg z10, p_see kT _ K k9 k1 rfl hq, zkI_s, hz, ← k9, zsI_id, k9]
        have eC : qu_parse_26 0 (nI (nc + 1)) σ I1 J = (zkI (qn_isAtEnd 11 σ I1 J) (zSC σ) (fun r9 I7 J8 => (if r9 = 0 then (zkI (qn_wrong 11 (I7 11 2) 0 σ I7 J8) (zSC σ) (fun r12 I10 J11 => (some (some (.int (I10 11 4)), ((zSC σ), I10, J11))))) else (some (some (.int (I7 11 4)), ((zSC σ), I7, J8)))))) := by
          rw [t_qu_parse_26, if_neg (show ¬ (12 : Int32) < nI (nc + 1) from fun h => by have := (nI_ltI (a := 12) (by omega) (by omega)).mp h; omega), if_pos rfl]
        rw [eC, t_qn_isAtEnd 11 12 s11, a2, a1]
        by_cases hqt : zru (zbl B) t p1 < t
        · rw [if_pos (nI_lt hqt (by omega)), zkI_s, if_pos rfl, a2, t_qn_wrong 11 _ _ 12 s11, zkI_s, zsI_at, if_neg (fun e => (zby_eq hB (s := 0) (by omega)).2.mp e hqt), t_qm_fails, if_pos k10, zkI_s, if_pos rfl, zsI_at, show (1 : Int32) + 8 * nI (zru (zbl B) t p1) + 0 = _ from hc.1, if_neg hc.2]
          exact ⟨_, _, _, rfl, by rw [if_neg hc.2], h3.tr (zIc.s (by omega)), zIm_1 (gK.tr (zIm_.s0 (by omega))), zsI_at _ _ _ _, Or.inl ⟨hc.2, by rw [zsI_no _ _ _ (by decide), zsI_at]⟩⟩
        · rw [if_neg (fun h' => hqt ((nI_ltI (by omega) (by omega)).mp h')), zkI_s, if_neg z10, hnv.2, if_pos ((zby_eq hB (s := 0) (by omega)).2.mpr hqt), if_neg z10, CK.2.1, if_neg (show ¬ nI tt = (6 : Int32) from fun h => by have := znI (b := 6) (by omega) (by omega) h; omega), k10, if_pos rfl]
          exact ⟨0, I1, _, rfl, by rw [if_pos rfl], h3, zIm_1 gK, zsI_at _ _ _ _, Or.inr ⟨rfl, nc + 1, L ++ M1, by omega, by have := HR.2.2.2.2.1; omega, hn1, e8, by rw [zsI_ne _ _ _ (by decide)]; exact k5, zCo_c CK rfl rfl (zsI_no _ _ _ (by decide)) (zsI_ne _ _ _ (by decide)) (zsI_ne _ _ _ (by decide)), by rw [zsI_ne _ _ _ (by decide)]; exact kX⟩⟩
