/-! ===== a river: any clause ===== -/
theorem zLn_K {m t : Nat} {B : Nat → Nat} {I I' K I1 I1' : zTI} {r : Int32} (h : zLn m t B I K r I1 I1') (g : zGn I' K) : zLn m t B I I' r I1 I1' := ⟨h.1, g.tr h.2.1, h.2.2⟩
set_option maxHeartbeats 8000000 in
theorem p_rline {m nb nk ns nr nh t q : Nat} {B : Nat → Nat} {I K : zTI} {σ : zSg} {J J' : zTJ} (H : zKd (if nb = m then 1 else 0) m nb nk ns nr nh t B q I K) (hw : zix (zww B t q) zwR 0 ≠ -1) : ∃ r I1 I1', zRc σ (nI q) (nI m) (zix (zww B t q) zwR 0) I J = some (some (.int r), (zSC σ, I1, J)) ∧ qm_riverLineHere (nI q) K J' = some (some (.int r), (zSM, I1', J')) ∧ zbo r = true ∧ zLn m t B I K r I1 I1' := by
  obtain ⟨⟨a1, a2, b1, b2, hq, T, b10⟩, hz, V, e12, e15, e8, hbm, hm⟩ := id H
  obtain ⟨s0, s1, s2, s3, s4⟩ := V.2.1
  have gK : zGn K (zsI K 0 8 0) := zGn.s (by omega)
  have T' : zTxt t B (I 8) (zsI K 0 8 0 1) := by rw [zsI_ne _ _ _ (by decide)]; exact T
  have b1' : zsI K 0 8 0 0 1 = nI t := by rw [zsI_no _ _ _ (by decide)]; exact b1
  have b2' : zsI K 0 8 0 0 9 = nI q := by rw [zsI_no _ _ _ (by decide)]; exact b2
  have H' : nb ≠ 0 → zKd 0 m nb nk ns nr nh t B q I (zsI K 0 8 0) := fun _ => ⟨⟨a1, a2, b1', b2', hq, T', by rw [zsI_no _ _ _ (by decide)]; exact b10⟩, hz, by rw [zsI_ne _ _ _ (by decide)]; exact V, by rw [zsI_no _ _ _ (by decide)]; exact e12, by rw [zsI_no _ _ _ (by decide)]; exact e15, zsI_at _ _ _ _, hbm, hm⟩
  have hn : ∀ {x : Int32}, nb ≠ 0 → nI nb = x → x = 0 → False := fun h h1 h2 => h (znI (b := 0) (by have := V.1.1; omega) (by omega) (h1.trans h2))
  rcases zwR_c hw with ⟨hv, hx⟩ | ⟨hv, hx⟩ | ⟨hv, hx⟩ | ⟨hv, hx⟩ | ⟨hv, hx⟩ | ⟨hv, hx⟩
  · obtain ⟨r, I1, I1', k1, k2, k3, k4⟩ := p_lBarge (σ := σ) (J := J) (J' := J') H
    rw [hx, k1, t_qm_riverLineHere, p_wt hv T b1 b2 hq hz zwR_0 (by decide) (by decide) (by decide), zkI_s, if_neg z10, k2, zkI_s, zif_t k3]
    exact ⟨r, I1, I1', rfl, rfl, k3, k4⟩
  all_goals rw [hx, t_qm_riverLineHere, p_wf (by rw [hv]; decide) T b1 b2 hq hz zwR_0 (by decide) (by decide) (by decide), zkI_s, if_pos rfl, s0]
  all_goals by_cases hb : nb = 0
  · obtain ⟨r, I1, I1', k1, k2, k3, k4⟩ := p_lNone (r3 := 1) (σ := σ) (J := J) (J' := J') H hb (by decide)
    rw [if_pos (by rw [hb]; rfl), k1, k2]
    exact ⟨r, I1, I1', rfl, rfl, k3, k4⟩
  · obtain ⟨r, I1, I1', k1, k2, k3, k4⟩ := p_lBook (σ := σ) (J := J) (J' := J') (H' hb) hb
    rw [if_neg (fun h => hn hb rfl h), k1, p_wt hv T' b1' b2' hq hz zwR_1 (by decide) (by decide) (by decide), zkI_s, if_neg z10, k2, zkI_s, zif_t k3]
    exact ⟨r, I1, I1', rfl, rfl, k3, zLn_K k4 gK⟩
  · obtain ⟨r, I1, I1', k1, k2, k3, k4⟩ := p_lNone (r3 := 2) (σ := σ) (J := J) (J' := J') H hb (by decide)
    rw [if_pos (by rw [hb]; rfl), k1, k2]
    exact ⟨r, I1, I1', rfl, rfl, k3, k4⟩
  · obtain ⟨r, I1, I1', k1, k2, k3, k4⟩ := p_lStop (σ := σ) (J := J) (J' := J') (H' hb) hb
    rw [if_neg (fun h => hn hb rfl h), k1, p_wf (by rw [hv]; decide) T' b1' b2' hq hz zwR_1 (by decide) (by decide) (by decide), zkI_s, if_pos rfl, p_wt hv T' b1' b2' hq hz zwR_2 (by decide) (by decide) (by decide), zkI_s, if_neg z10, k2, zkI_s, zif_t k3]
    exact ⟨r, I1, I1', rfl, rfl, k3, zLn_K k4 gK⟩
  · obtain ⟨r, I1, I1', k1, k2, k3, k4⟩ := p_lNone (r3 := 3) (σ := σ) (J := J) (J' := J') H hb (by decide)
    rw [if_pos (by rw [hb]; rfl), k1, k2]
    exact ⟨r, I1, I1', rfl, rfl, k3, k4⟩
  · obtain ⟨r, I1, I1', k1, k2, k3, k4⟩ := p_lReader (σ := σ) (J := J) (J' := J') (H' hb) hb
    rw [if_neg (fun h => hn hb rfl h), k1, p_wf (by rw [hv]; decide) T' b1' b2' hq hz zwR_1 (by decide) (by decide) (by decide), zkI_s, if_pos rfl, p_wf (by rw [hv]; decide) T' b1' b2' hq hz zwR_2 (by decide) (by decide) (by decide), zkI_s, if_pos rfl, p_wt hv T' b1' b2' hq hz zwR_3 (by decide) (by decide) (by decide), zkI_s, if_neg z10, k2, zkI_s, zif_t k3]
    exact ⟨r, I1, I1', rfl, rfl, k3, zLn_K k4 gK⟩
  · obtain ⟨r, I1, I1', k1, k2, k3, k4⟩ := p_lNone (r3 := 4) (σ := σ) (J := J) (J' := J') H hb (by decide)
    rw [if_pos (by rw [hb]; rfl), k1, k2]
    exact ⟨r, I1, I1', rfl, rfl, k3, k4⟩
  · obtain ⟨r, I1, I1', k1, k2, k3, k4⟩ := p_lWish (σ := σ) (J := J) (J' := J') (H' hb) hb
    rw [if_neg (fun h => hn hb rfl h), k1, p_wf (by rw [hv]; decide) T' b1' b2' hq hz zwR_1 (by decide) (by decide) (by decide), zkI_s, if_pos rfl, p_wf (by rw [hv]; decide) T' b1' b2' hq hz zwR_2 (by decide) (by decide) (by decide), zkI_s, if_pos rfl, p_wf (by rw [hv]; decide) T' b1' b2' hq hz zwR_3 (by decide) (by decide) (by decide), zkI_s, if_pos rfl, p_wt hv T' b1' b2' hq hz zwR_4 (by decide) (by decide) (by decide), zkI_s, if_neg z10, k2, zkI_s, zif_t k3]
    exact ⟨r, I1, I1', rfl, rfl, k3, zLn_K k4 gK⟩
  · obtain ⟨r, I1, I1', k1, k2, k3, k4⟩ := p_lNone (r3 := 5) (σ := σ) (J := J) (J' := J') H hb (by decide)
    rw [if_pos (by rw [hb]; rfl), k1, k2]
    exact ⟨r, I1, I1', rfl, rfl, k3, k4⟩
  · obtain ⟨r, I1, I1', k1, k2, k3, k4⟩ := p_lHole (σ := σ) (J := J) (J' := J') (H' hb) hb
    rw [if_neg (fun h => hn hb rfl h), k1, p_wf (by rw [hv]; decide) T' b1' b2' hq hz zwR_1 (by decide) (by decide) (by decide), zkI_s, if_pos rfl, p_wf (by rw [hv]; decide) T' b1' b2' hq hz zwR_2 (by decide) (by decide) (by decide), zkI_s, if_pos rfl, p_wf (by rw [hv]; decide) T' b1' b2' hq hz zwR_3 (by decide) (by decide) (by decide), zkI_s, if_pos rfl, p_wf (by rw [hv]; decide) T' b1' b2' hq hz zwR_4 (by decide) (by decide) (by decide), zkI_s, if_pos rfl, k2, zkI_s, zif_t k3]
    exact ⟨r, I1, I1', rfl, rfl, k3, zLn_K k4 gK⟩
set_option maxHeartbeats 8000000 in
theorem p_clR {σ : zSg} {I I' : zTI} {J J' : zTJ} {m nb nk ns nr nh t p : Nat} {B : Nat → Nat} (H : zCl m nb nk ns nr nh t B p I I') (hm : m ≤ 40) : ∃ r I1 I1', qr_readClause (nI m) σ I J = some (some (.int r), (zSC σ, I1, J)) ∧ qm_clauseHere I' J' = some (some (.int r), (zSM, I1', J')) ∧ zLn m t B I I' r I1 I1' := by
  obtain ⟨⟨a1, a2, b1, b2, hp, T, b10⟩, V, e12, e15, e8, hbm⟩ := H
  have hq := zru_le (P := zbl B) (t := t) p hp
  have hz := zru_id (P := zbl B) (t := t) (p := p)
  have ht := T.1
  rw [t_qr_readClause, p_am s7 zwR T a1 a2 hq (by decide) (by decide) (by decide) zwR_j zwR_b, zkI_s, t_qm_clauseHere, p_see T p I' b2 b1 rfl hp, zkI_s, zsI_no _ _ _ (show 12 ≠ 9 by decide), e12, if_pos rfl, zsI_at]
  generalize zru (zbl B) t p = q at *
  have k1 : zsI I' 0 9 (nI q) 0 1 = nI t := by rw [zsI_no _ _ _ (by decide)]; exact b1
  have k9 : zsI I' 0 9 (nI q) 0 9 = nI q := zsI_at _ _ _ _
  have k10 : zsI I' 0 9 (nI q) 0 10 = 0 := by rw [zsI_no _ _ _ (by decide)]; exact b10
  have k15 : zsI I' 0 9 (nI q) 0 15 = nI m := by rw [zsI_no _ _ _ (by decide)]; exact e15
  have k12 : zsI I' 0 9 (nI q) 0 12 = 6 := by rw [zsI_no _ _ _ (by decide)]; exact e12
  have k8 : zsI I' 0 9 (nI q) 0 8 = if nb = m then 1 else 0 := by rw [zsI_no _ _ _ (by decide)]; exact e8
  have kT : zTxt t B (I 8) (zsI I' 0 9 (nI q) 1) := by rw [zsI_ne _ _ _ (by decide)]; exact T
  have kV : zRv nb nk ns nr nh (I 10) (zsI I' 0 9 (nI q) 6) := by rw [zsI_ne _ _ _ (by decide)]; exact V
  have gK : zGn I' (zsI I' 0 9 (nI q)) := zGn.s (by omega)
  generalize zsI I' 0 9 (nI q) = K at *
  rw [p_isRW kT k1 k9 hq hz, zkI_s]
  by_cases hw : zix (zww B t q) zwR 0 = -1
  · rw [if_pos hw, if_pos hw, if_pos rfl, p_failC s7, a2, p_failM k10]
    exact ⟨0, _, _, rfl, rfl, zGc.s7 (by omega), gK.tr (zGn.s (by omega)), Or.inl ⟨rfl, zBad_of (k := 0) rfl (by omega) (by omega)⟩⟩
  · rw [if_neg hw, if_neg hw, if_neg z10, k15]
    by_cases h40 : m = 40
    · rw [if_neg (show ¬ nI m < (40 : Int32) from fun h => by have := (zlt_n (x := 40) (b := 40) rfl (by omega) (by omega)).1.mp h; omega), p_failC s7, a2, if_pos (show nI m = (40 : Int32) by rw [h40]; rfl), p_failM k10]
      exact ⟨0, _, _, rfl, rfl, zGc.s7 (by omega), gK.tr (zGn.s (by omega)), Or.inl ⟨rfl, zBad_of (k := 4) rfl (by omega) (by omega)⟩⟩
    · have hK : zKd (if nb = m then 1 else 0) m nb nk ns nr nh t B q I (zsI K 0 15 (nI (m + 1))) := ⟨⟨a1, by rw [hz]; exact a2, by rw [zsI_no _ _ _ (by decide)]; exact k1, by rw [zsI_no _ _ _ (by decide)]; exact k9, hq, by rw [zsI_ne _ _ _ (by decide)]; exact kT, by rw [zsI_no _ _ _ (by decide)]; exact k10⟩, hz, by rw [zsI_ne _ _ _ (by decide)]; exact kV, by rw [zsI_no _ _ _ (by decide)]; exact k12, zsI_at _ _ _ _, by rw [zsI_no _ _ _ (by decide)]; exact k8, hbm, by omega⟩
      obtain ⟨r, I1, I1', f1, f2, f3, f4⟩ := p_rline (σ := σ) (J := J) (J' := J') hK hw
      unfold zRc at f1
      rw [if_pos (show nI m < (40 : Int32) from (zlt_n (x := 40) (b := 40) rfl (by omega) (by omega)).1.mpr (by omega)), if_neg (show ¬ nI m = (40 : Int32) from fun h => h40 ((zlt_n (x := 40) (b := 40) rfl (by omega) (by omega)).2.mp h)), nI_1, a2, f1, f2, zkI_s, zif_t f3]
      exact ⟨r, I1, I1', rfl, rfl, zLn_K f4 (gK.tr (zGn.s (by omega)))⟩
