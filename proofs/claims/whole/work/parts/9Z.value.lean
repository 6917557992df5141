/-! ===== a rule: a value ===== -/
theorem zsgn_n {v : Nat} (h : v < 100000) : (0 : Int32) + 16 * nI v = nI (zsgn v) := by
  unfold zsgn
  rw [if_pos h, show (16 : Int32) * nI v = nI (16 * v) from (Int32.ofNat_mul 16 v).symm, show (0 : Int32) + nI (16 * v) = nI (0 + 16 * v) from nI_add 0 _]
  congr 1
  omega
theorem zsgn_w {k : Nat} (h : k < 12) : (1 : Int32) + 16 * nI k = nI (zsgn (100000 + k)) := by
  unfold zsgn
  rw [if_neg (by omega), if_pos (by omega), show (16 : Int32) * nI k = nI (16 * k) from (Int32.ofNat_mul 16 k).symm, show (1 : Int32) + nI (16 * k) = nI (1 + 16 * k) from nI_add 1 _, show 16 * (100000 + k - 100000) + 1 = 1 + 16 * k by omega]
/-- a value is counted and written -/
theorem p_val1 {t : Nat} {B : Nat → Nat} {tt p : Nat} {L : List Nat} {m x : Nat} {σ : zSg} {I I' : zTI} {J J' : zTJ} (H : zRd t B tt p L m I I') (htt : tt < 6) (hL : L.length < 400) (hx : x < 100012) (hm : m < 60) : ∃ I1 I2 I2', qu_put (nI x) σ I J = some (none, (zSC σ, I1, J)) ∧ (∀ y, qu_countPart y σ I1 J = some (some (.int 1), (zSC σ, I2, J))) ∧ (∀ s v : Int32, s + 16 * v = nI (zsgn x) → qm_puts s v (zsI I' 0 13 (nI (m + 1))) J' = some (none, (zSM, I2', J'))) ∧ zRd t B tt p (L ++ [x]) (m + 1) I2 I2' ∧ zHc I I2 ∧ zHs tt I' I2' := by
  obtain ⟨X, C, e9, e13, -, hv⟩ := H
  have C' : zCo tt L I (zsI I' 0 13 (nI (m + 1))) := ⟨C.1, by rw [zsI_no _ _ _ (by decide)]; exact C.2.1, by rw [zsI_ne _ _ _ (by decide)]; exact C.2.2.1, by rw [zsI_ne _ _ _ (by decide)]; exact C.2.2.2.1, C.2.2.2.2⟩
  obtain ⟨I1, I1', h1, h2, h3, h4, h5, h6, h7⟩ := p_put2 (σ := σ) (J := J) (J' := J') C' htt hL (x := x) (Or.inl hx)
  refine ⟨I1, zsI I1 11 9 (nI (m + 1)), I1', h1, fun y => ?_, h2, ⟨zLx_f X (fun k hk => ?_) ?_ (fun k hk => ?_) ?_, ⟨?_, h3.2.1, h3.2.2.1, ?_, h3.2.2.2.2⟩, zsI_at _ _ _ _, ?_, by omega, ?_, ?_⟩, h4.tr (zHc.s (by omega)), (zHs.s (by omega)).tr h5⟩
  · rw [t_qu_countPart, h6 9 (by decide), e9, if_pos (show nI m < (60 : Int32) from nI_lt (b := 60) hm (by omega)), nI_1]
  · rw [zsI_no _ _ _ (by omega), h6 k (by omega)]
  · rw [zsI_ne _ _ _ (by decide), h4.1 12 (by decide) (by decide)]
  · rw [h7, zsI_no _ _ _ (by omega)]
  · rw [h5.1 1 (by decide) (by decide) (by decide), zsI_ne _ _ _ (by decide)]
  · rw [zsI_no _ _ _ (by decide)]; exact h3.1
  · rw [zsI_ne _ _ _ (by decide)]; exact h3.2.2.2.1
  · rw [h7, zsI_at]
  · rw [znv_app]
    show znv L + ((if x < 200000 then 1 else 0) + 0) ≤ m + 1
    rw [if_pos (by omega)]
    omega
  · rw [zsI_no _ _ _ (by decide), h6 4 (by decide)]; exact hv.2
/-- one part too many: the class -/
theorem p_val0 {tt : Nat} {L : List Nat} {x q : Nat} {σ : zSg} {I I' : zTI} {J : zTJ} (C : zCo tt L I I') (htt : tt < 6) (hL : L.length < 400) (hx : x < 100012) (e9 : I 11 9 = nI 60) : ∃ I1 I2, qu_put (nI x) σ I J = some (none, (zSC σ, I1, J)) ∧ qu_countPart (nI q) σ I1 J = some (some (.int 0), (zSC σ, I2, J)) ∧ I2 11 4 = 1 + 8 * nI q + 3 ∧ zHc I I2 := by
  obtain ⟨I1, I1', h1, h2, h3, h4, h5, h6, h7⟩ := p_put2 (σ := σ) (J := J) (J' := J) C htt hL (x := x) (Or.inl hx)
  refine ⟨I1, zsI I1 11 4 (1 + 8 * nI q + 3), h1, ?_, zsI_at _ _ _ _, h4.tr (zHc.s (by omega))⟩
  rw [t_qu_countPart, h6 9 (by decide), e9, if_neg (show ¬ nI 60 < (60 : Int32) by decide), p_failC s11]
theorem p_mk0 {I : zTI} {J : zTJ} {q : Nat} (e13 : I 0 13 = nI 60) (e10 : I 0 10 = 0) : qm_makes (nI q) I J = some (some (.int 0), (zSM, zsI I 0 10 (1 + 8 * nI q + 3), J)) := by
  rw [t_qm_makes, e13, if_pos (show nI 60 = (60 : Int32) from rfl), p_failM e10]
theorem p_mk1 {I : zTI} {J : zTJ} {x : Int32} {m : Nat} (e13 : I 0 13 = nI m) (hm : m < 60) : qm_makes x I J = some (some (.int 1), (zSM, zsI I 0 13 (nI (m + 1)), J)) := by
  rw [t_qm_makes, e13, if_neg (show ¬ nI m = (60 : Int32) from fun h => by have := znI (b := 60) (by omega) (by omega) h; omega), nI_1]
theorem zCo_c {tt : Nat} {L : List Nat} {I I' I1 I1' : zTI} (C : zCo tt L I I') (h1 : I1 11 6 = I 11 6) (h2 : I1 13 = I 13) (g1 : I1' 0 12 = I' 0 12) (g2 : I1' 2 = I' 2) (g3 : I1' 3 = I' 3) : zCo tt L I1 I1' := ⟨by rw [h1]; exact C.1, by rw [g1]; exact C.2.1, by rw [g3]; exact C.2.2.1, by rw [h2, g2]; exact C.2.2.2.1, C.2.2.2.2⟩
/-- a number that is good leaves no fault -/
theorem p_num4 {w c : Nat} (hw : zsn w c) {σ : zSg} {I I' I1 : zTI} {J : zTJ} {t p : Nat} {B : Nat → Nat} {lo hi : Int32} (L : zLx t B w c p I I') (h : qn_readNumber w lo hi σ I J = some (some (.int 1), (zSC σ, I1, J))) : I1 w 4 = I w 4 := by
  obtain ⟨a1, a2, b1, b2, hp, T, b10⟩ := L
  have hcw : c ≠ w := by rcases hw with ⟨rfl, rfl⟩ | ⟨rfl, rfl⟩ <;> decide
  have hq := zru_le (P := zbl B) (t := t) p hp
  have hC := p_numC hw (σ := σ) (J := J) (lo := lo) (hi := hi) T hq _ (zsI I w 3 0) (Nat.le_refl _) hq (fun i _ _ => by omega) (by rw [zsI_no _ _ _ (by decide)]; exact a2) (by rw [zsI_no _ _ _ (by decide)]; exact a1) (by rw [zsI_at, Nat.sub_self]; rfl) (zsI_ne _ _ _ hcw)
  rw [Nat.sub_self, zsI_sI] at hC
  rw [t_qn_readNumber w _ _ c hw, a2, show qn_readNumber_13 w lo hi (nI (zru (zbl B) t p)) 0 σ (zsI I w 3 0) J = _ from hC] at h
  unfold zend at h
  have no : ∀ (X : zTI) (P : Prop), (some (some (Value.int 0), (zSC σ, X, J)) : Option zR) = some (some (.int 1), (zSC σ, I1, J)) → P := fun X P e => by
    have e1 := Value.int.inj (Option.some.inj (Prod.mk.inj (Option.some.inj e)).1)
    exact absurd e1 (by decide)
  split at h
  · exact no _ _ h
  · split at h
    · exact no _ _ h
    · have e2 := (Prod.mk.inj (Prod.mk.inj (Prod.mk.inj (Option.some.inj h)).2).2).1
      rw [← e2, zsI_no _ _ _ (by decide), zsI_no _ _ _ (by decide), zsI_no _ _ _ (by decide)]
set_option maxHeartbeats 8000000 in
theorem p_value {σ : zSg} {I I' : zTI} {J J' : zTJ} {t tt p m : Nat} {B : Nat → Nat} {L : List Nat} (H : zRd t B tt p L m I I') (htt : tt < 6) (hL : L.length ≤ p) : ∃ r I1 I1', qu_readValue σ I J = some (some (.int r), (zSC σ, I1, J)) ∧ qm_value I' J' = some (some (.int r), (zSM, I1', J')) ∧ zHc I I1 ∧ zHs tt I' I1' ∧ ((r = 0 ∧ zBad 11 I1 I1') ∨ (r = 1 ∧ ∃ p1 x, x < 100012 ∧ p < p1 ∧ m < 60 ∧ zRd t B tt p1 (L ++ [x]) (m + 1) I1 I1')) := by
  obtain ⟨⟨a1, a2, b1, b2, hp, T, b10⟩, C, e9, e13, hm, hv⟩ := H
  have hq := zru_le (P := zbl B) (t := t) p hp
  have hpq := zru_ge (P := zbl B) (t := t) p
  have hz := zru_id (P := zbl B) (t := t) (p := p)
  have ht := T.1
  rw [t_qu_readValue, p_atDig s11 T a1 a2 (by omega), zkI_s, t_qm_value, p_see T p I' b2 b1 rfl hp, zkI_s, zsI_at]
  generalize zru (zbl B) t p = q at *
  have k1 : zsI I' 0 9 (nI q) 0 1 = nI t := by rw [zsI_no _ _ _ (by decide)]; exact b1
  have k9 : zsI I' 0 9 (nI q) 0 9 = nI q := zsI_at _ _ _ _
  have k10 : zsI I' 0 9 (nI q) 0 10 = 0 := by rw [zsI_no _ _ _ (by decide)]; exact b10
  have k13 : zsI I' 0 9 (nI q) 0 13 = nI m := by rw [zsI_no _ _ _ (by decide)]; exact e13
  have kT : zTxt t B (I 12) (zsI I' 0 9 (nI q) 1) := by rw [zsI_ne _ _ _ (by decide)]; exact T
  have kC : zCo tt L I (zsI I' 0 9 (nI q)) := zCo_c C rfl rfl (zsI_no _ _ _ (by decide)) (zsI_ne _ _ _ (by decide)) (zsI_ne _ _ _ (by decide))
  have gK : zHs tt I' (zsI I' 0 9 (nI q)) := zHs.s (by omega)
  generalize zsI I' 0 9 (nI q) = K at *
  rw [p_isDig kT k1 (by omega), zkI_s]
  by_cases g : zhr (zdi B) t q
  · rw [if_pos g, if_neg z10, if_neg z10]
    obtain ⟨r, I2, K2, h1, h2, h3, h4, h5⟩ := p_number s11 (σ := σ) (J := J) (J' := J') (lo := 0) (hi := 99999) (p := q) ⟨a1, by rw [hz]; exact a2, k1, k9, hq, kT, k10⟩
    rw [h1, zkI_s, h2, zkI_s]
    rcases h5 with ⟨rfl, hb⟩ | ⟨rfl, p1, v, L1, l2, l3, l4, l5, l6, l7⟩
    · rw [if_pos rfl, if_pos rfl]
      exact ⟨0, I2, K2, rfl, rfl, h3.h, gK.tr h4.h, Or.inl ⟨rfl, hb⟩⟩
    · have C2 : zCo tt L I2 K2 := zCo_c kC (h3.2 6 (by decide) (by decide) (by decide)) (h3.1 13 (by decide)) (h4.2 12 (by decide) (by decide) (by decide)) (h4.1 2 (by decide)) (h4.1 3 (by decide))
      have f9 : I2 11 9 = nI m := by rw [h3.2 9 (by decide) (by decide) (by decide)]; exact e9
      have f13 : K2 0 13 = nI m := by rw [h4.2 13 (by decide) (by decide) (by decide)]; exact k13
      rw [if_neg z10, if_neg z10, l4, a2]
      by_cases h60 : m = 60
      · subst h60
        obtain ⟨I3, I4, w1, w2, w3, w4⟩ := p_val0 (σ := σ) (J := J) (x := v) (q := q) C2 htt (by have := g.1; omega) (by omega) f9
        rw [w1, zkV_s, w2, zkI_s, zif_t (show zbo 0 = true by decide), p_mk0 f13 L1.2.2.2.2.2.2, zkI_s, if_pos rfl]
        refine ⟨0, _, _, rfl, rfl, h3.h.tr w4, (gK.tr h4.h).tr (zHs.s (by omega)), Or.inl ⟨rfl, ?_, ?_⟩⟩
        · rw [w3, zsI_at]
        · rw [zsI_at, show (1 : Int32) + 8 * nI q + 3 = _ from (zcode (k := 3) (by omega) (by omega)).1]
          exact (zcode (k := 3) (by omega) (by omega)).2
      · obtain ⟨I3, I4, K4, w1, w2, w3, w4, w5, w6⟩ := p_val1 (σ := σ) (J := J) (J' := J') (x := v) (p := p1) ⟨L1, C2, f9, f13, hm, hv.1, by rw [p_num4 s11 ⟨a1, by rw [hz]; exact a2, k1, k9, hq, kT, k10⟩ h1]; exact hv.2⟩ htt (by have := g.1; omega) (by omega) (by omega)
        rw [w1, zkV_s, w2, zkI_s, zif_t (show zbo 1 = true by decide), p_mk1 f13 (by omega), zkI_s, if_neg z10, zsI_no _ _ _ (show 11 ≠ 13 by decide), l5, w3 _ _ (zsgn_n (by omega)), zkV_s]
        exact ⟨1, I4, K4, rfl, rfl, h3.h.tr w5, (gK.tr h4.h).tr w6, Or.inr ⟨rfl, p1, v, by omega, by omega, by omega, w4⟩⟩
  · rw [if_neg g, if_pos rfl, if_pos rfl, p_am s11 zwV T a1 a2 hq (by decide) (by decide) (by decide) zwV_j zwV_b, zkI_s, p_wordH kT k1 k9 hq hz, zkI_s]
    rcases zix_V (v := zww B t q) with hx | ⟨k, hk, hx⟩
    · rw [hx, if_pos rfl, if_pos (show (-1 : Int32) < 0 by decide), p_failC s11, a2, p_failM k10]
      exact ⟨0, _, _, rfl, rfl, zHc.s (by omega), gK.tr (zHs.s (by omega)), Or.inl ⟨rfl, zBad_of (k := 0) rfl (by omega) (by omega)⟩⟩
    · have hw : zww B t q ≠ [] := fun h => by
        rw [h] at hx
        exact znm (n := k) (by omega) (hx.symm.trans (by decide))
      have hlt : q < zru (zlr B) t q := by
        have := zru_ge (P := zlr B) (t := t) q
        rcases Nat.lt_or_ge q (zru (zlr B) t q) with h | h
        · exact h
        · exact absurd (by unfold zww; rw [show zru (zlr B) t q - q = 0 by omega]; rfl) hw
      have hle := zru_le (P := zlr B) (t := t) q hq
      rw [hx, if_neg (znm (by omega)), if_neg (znn (by omega)), p_takeW s11 T a1 a2 hq, zkV_s, a2, show (100000 : Int32) + nI k = nI (100000 + k) from nI_add 100000 k]
      have CI : ∀ K', K' 0 12 = K 0 12 → K' 2 = K 2 → K' 3 = K 3 → zCo tt L (zsI I 11 2 (nI (zru (zbl B) t (zru (zlr B) t q)))) K' := fun K' u1 u2 u3 => zCo_c kC (zsI_no _ _ _ (by decide)) (zsI_ne _ _ _ (by decide)) u1 u2 u3
      have f9 : zsI I 11 2 (nI (zru (zbl B) t (zru (zlr B) t q))) 11 9 = nI m := by rw [zsI_no _ _ _ (by decide)]; exact e9
      by_cases h60 : m = 60
      · subst h60
        obtain ⟨I3, I4, w1, w2, w3, w4⟩ := p_val0 (σ := σ) (J := J) (x := 100000 + k) (q := q) (CI K rfl rfl rfl) htt (by omega) (by omega) f9
        rw [w1, zkV_s, w2, zkI_s, zif_t (show zbo 0 = true by decide), p_mk0 k13 k10, zkI_s, if_pos rfl]
        refine ⟨0, _, _, rfl, rfl, (zHc.s (by omega)).tr w4, gK.tr (zHs.s (by omega)), Or.inl ⟨rfl, ?_, ?_⟩⟩
        · rw [w3, zsI_at]
        · rw [zsI_at, show (1 : Int32) + 8 * nI q + 3 = _ from (zcode (k := 3) (by omega) (by omega)).1]
          exact (zcode (k := 3) (by omega) (by omega)).2
      · have X : zLx t B 11 12 (zru (zlr B) t q) (zsI I 11 2 (nI (zru (zbl B) t (zru (zlr B) t q)))) (zsI K 0 9 (nI (zru (zlr B) t q))) := ⟨by rw [zsI_no _ _ _ (by decide)]; exact a1, zsI_at _ _ _ _, by rw [zsI_no _ _ _ (by decide)]; exact k1, zsI_at _ _ _ _, hle, by rw [zsI_ne _ _ _ (by decide), zsI_ne _ _ _ (by decide)]; exact kT, by rw [zsI_no _ _ _ (by decide)]; exact k10⟩
        obtain ⟨I3, I4, K4, w1, w2, w3, w4, w5, w6⟩ := p_val1 (σ := σ) (J := J) (J' := J') (x := 100000 + k) ⟨X, CI _ (zsI_no _ _ _ (by decide)) (zsI_ne _ _ _ (by decide)) (zsI_ne _ _ _ (by decide)), f9, by rw [zsI_no _ _ _ (by decide)]; exact k13, hm, hv.1, by rw [zsI_no _ _ _ (by decide)]; exact hv.2⟩ htt (by omega) (by omega) (by omega)
        rw [w1, zkV_s, w2, zkI_s, zif_t (show zbo 1 = true by decide), p_mk1 k13 (by omega), zkI_s, if_neg z10, p_pass (C := I 12) (M := K 1) kT q (zsI K 0 13 (nI (m + 1))) (by rw [zsI_no _ _ _ (by decide)]; exact k9) (by rw [zsI_no _ _ _ (by decide)]; exact k1) (zsI_ne _ _ _ (by decide)) hq, zkV_s, zsI_cm K 0 (k := 13) (k' := 9) _ _ (by decide), w3 _ _ (zsgn_w hk), zkV_s]
        exact ⟨1, I4, K4, rfl, rfl, (zHc.s (by omega)).tr w5, (gK.tr (zHs.s (by omega))).tr w6, Or.inr ⟨rfl, _, 100000 + k, by omega, by omega, by omega, w4⟩⟩
