/-! ===== a rule: a clause, in both ===== -/
/-- what a clause's reading comes to -/
def zOq (nc t : Nat) (B : Nat → Nat) (tt : Nat) (L : List Nat) (I K : zTI) (r : Int32) (I1 I1' : zTI) : Prop := zbo r = true ∧ zIc I I1 ∧ zIm_ tt K I1' ∧ ((r = 0 ∧ zBad 11 I1 I1') ∨ (r = 1 ∧ nc < 12 ∧ ∃ p1 m1 M1, zQl (nc + 1) t B tt p1 (L ++ M1) m1 I1 I1'))
theorem zOq_t {nc t tt : Nat} {B : Nat → Nat} {L : List Nat} {I K I0 K0 I1 I1' : zTI} {r : Int32} (h : zOq nc t B tt L I K r I1 I1') (g : zIc I0 I) (g' : zIm_ tt K0 K) : zOq nc t B tt L I0 K0 r I1 I1' := ⟨h.1, g.tr h.2.1, g'.tr h.2.2.1, h.2.2.2⟩
set_option maxHeartbeats 8000000 in
theorem p_tail {σ : zSg} {J J' : zTJ} {nc t tt p m a kd shf ss : Nat} {B : Nat → Nat} {L M : List Nat} {A A' : Nat → Int32} {Z Z' : zTI} (HZ : zRd t B tt p (L ++ M) m Z Z') (htt : tt < 6) (hp : (L ++ M).length ≤ p) (X0 : zCx tt nc L A A') (hn : nc < 12) (ha : a = 60 * tt + 5 * nc) (hA : ∀ i, i < 5 * nc → Z 14 i = A i) (hA' : ∀ i, i < 60 * tt + 5 * nc → Z' 4 i = A' i) (z8 : Z 11 8 = nI (nc + 1)) (z15 : Z' 0 15 = nI (nc + 1)) (z5 : Z' 5 tt = nI nc) (v0 : Z 14 (5 * nc + 0) = nI kd) (v1 : Z 14 (5 * nc + 1) = nI shf) (v2 : Z 14 (5 * nc + 2) = nI ss) (v3 : Z 14 (5 * nc + 3) = nI (L ++ M).length) (w0 : Z' 4 a = nI kd) (w1 : kd = 0 → Z' 4 (a + 1) = nI ss ∧ Z' 4 (a + 2) = nI (L ++ M).length) (w2 : kd = 2 → Z' 4 (a + 1) = nI shf) (c0 : kd ≤ 2) (c1 : shf ≤ 7) (c2 : kd ≠ 2 → shf = 0) (c6 : kd = 0 → ss ≤ (L ++ M).length ∧ zty (zsg_ (L ++ M) ss (L ++ M).length) [] = some [false]) : ∃ r I1 I1', zTs nc σ Z J = some (some (.int r), (zSC σ, I1, J)) ∧ (zkI (qm_isTestHere (nI a) Z' J') zSM (fun r I J => (if r = 0 then (some (some (.int 0), (zSM, I, J))) else zDe a I J))) = some (some (.int r), (zSM, I1', J')) ∧ zOq nc t B tt L Z Z' r I1 I1' := by
  have hC := HZ.2.1
  have e12 := hC.2.1
  have e3 := hC.2.2.1
  have H2 : zRd t B tt p (L ++ M) m Z (zsI Z' 4 (a + 3) (Z' 3 tt)) := zRd_e HZ (fun _ _ => rfl) rfl rfl (fun k _ => by rw [zsI_ne _ _ _ (by decide)]) (zsI_ne _ _ _ (by decide)) (zsI_ne _ _ _ (by decide)) (zsI_ne _ _ _ (by decide))
  obtain ⟨r, I1, I1', h1, h2, h3, h4, h5⟩ := p_test0 (σ := σ) (J := J) (J' := J') H2 htt hp
  unfold zTs
  rw [h1, zkI_s, p_th e12 htt (by omega), h2, zkI_s]
  rcases h5 with ⟨rfl, hb⟩ | ⟨rfl, p1, m1, L1, k1, k2, k3, k4, k5⟩
  · rw [if_pos rfl, zif_t (show zbo 0 = true by decide), zkI_s, if_pos rfl]
    exact ⟨0, I1, I1', rfl, rfl, by decide, h3.i, (zIm_.s4 (by omega)).tr h4.i, Or.inl ⟨rfl, hb⟩⟩
  · have hl1 : L1 ≠ [] := fun h => by
      rw [h] at k5
      exact absurd k5 (by decide)
    have hl2 : 0 < L1.length := List.length_pos_iff.mpr hl1
    have r14 : I1 14 = Z 14 := h3.1 14 (by decide) (by decide)
    have r4 : I1' 4 = zsI Z' 4 (a + 3) (Z' 3 tt) 4 := h4.1 4 (by decide) (by decide) (by decide) (by decide)
    have r5 : I1' 5 tt = nI nc := by rw [h4.1 5 (by decide) (by decide) (by decide) (by decide), zsI_ne _ _ _ (by decide)]; exact z5
    have r12 : I1' 0 12 = nI tt := by rw [h4.2.1 12 (by decide) (by decide) (by decide) (by decide) (by decide) (by decide), zsI_ne _ _ _ (by decide)]; exact e12
    have r15 : I1' 0 15 = nI (nc + 1) := by rw [h4.2.1 15 (by decide) (by decide) (by decide) (by decide) (by decide) (by decide), zsI_ne _ _ _ (by decide)]; exact z15
    have r8 : I1 11 8 = nI (nc + 1) := by rw [h3.2 8 (by decide) (by decide) (by decide) (by decide) (by decide)]; exact z8
    have k3' : zRd t B tt p1 (L ++ (M ++ L1)) m1 I1 I1' := by rw [← List.append_assoc]; exact k3
    have hlen : (L ++ (M ++ L1)).length = (L ++ M).length + L1.length := by rw [← List.append_assoc, List.length_append]
    rw [if_neg z10, zif_t (show zbo 1 = true by decide), zkI_s, if_neg z10, p_De r12 r5 htt (by omega)]
    refine ⟨1, _, _, rfl, rfl, by decide, h3.i.tr (zIc.s (by omega)), (((zIm_.s4 (by omega)).tr h4.i).tr (zIm_.s4 (by omega))).tr zIm_.s5, Or.inr ⟨rfl, hn, p1, m1, M ++ L1, zQl_fin (kd := kd) (shf := shf) (ss := ss) (ts := (L ++ M).length) k3' (by omega) X0 hn ha (fun i hi => by rw [r14]; exact hA i hi) (fun i hi => by rw [r4, zsI_no _ _ _ (by omega)]; exact hA' i hi) r8 r15 (by rw [r14]; exact v0) (by rw [r14]; exact v1) (by rw [r14]; exact v2) (by rw [r14]; exact v3) (by rw [r4, zsI_no _ _ _ (by omega)]; exact w0) (fun h => by rw [r4, zsI_no _ _ _ (by omega), zsI_no _ _ _ (by omega)]; exact w1 h) (fun h => by rw [r4, zsI_no _ _ _ (by omega)]; exact w2 h) (by rw [r4, zsI_at, if_neg (by omega)]; exact e3) c0 c1 c2 (by omega) (fun _ => ?_) (fun h => ⟨(c6 h).1, ?_⟩)⟩⟩
    · rw [← List.append_assoc, zsg_new]
      exact k5
    · rw [← List.append_assoc, zsg_app (Nat.le_refl _)]
      exact (c6 h).2
theorem p_takesW {I : zTI} {J : zTJ} {t p q : Nat} {B : Nat → Nat} {C : Nat → Int32} {X : Int64} {l : List Nat} (T : zTxt t B C (I 1)) (e1 : I 0 1 = nI t) (e9 : I 0 9 = nI p) (hp : p ≤ t) (hz : zru (zbl B) t p = q) (hX : X = zn6 (zpq l.reverse)) (hl : ∀ a, a ∈ l → 0 < a ∧ a < 256) (h0 : 0 < l.length) (h7 : l.length < 8) : qm_takesWord X I J = if zww B t q = l then some (some (.int 1), (zSM, zsI I 0 9 (nI (zru (zlr B) t q)), J)) else some (some (.int 0), (zSM, zsI I 0 9 (nI q), J)) := by
  have hq := zru_le (P := zbl B) (t := t) p hp
  rw [hz] at hq
  rw [t_qm_takesWord, hX, p_isW T e1 e9 hp hl h0 h7, zkI_s, hz]
  by_cases h : zww B t q = l
  · rw [if_pos h, if_pos h, if_neg z10, p_pass (C := C) (M := I 1) T q (zsI I 0 9 (nI q)) (zsI_at _ _ _ _) (by rw [zsI_no _ _ _ (by decide)]; exact e1) (zsI_ne _ _ _ (by decide)) hq, zkV_s, zsI_sI]
  · rw [if_neg h, if_neg h, if_pos rfl]
theorem p_ds {J : zTJ} {t q : Nat} {B : Nat → Nat} {C : Nat → Int32} {I : zTI} (T : zTxt t B C (I 1)) (e1 : I 0 1 = nI t) (e9 : I 0 9 = nI q) (hq : q ≤ t) (hz : zru (zbl B) t q = q) : qm_doingSort I J = some (some (.int (zix (zww B t q) zwL 0)), (zSM, I, J)) := by
  rw [t_qm_doingSort, p_isWq (X := 1818586724) (l := [108, 101, 110, 100]) T e1 e9 hq hz rfl (by decide) (by decide) (by decide), zkI_s, p_isWq (X := 439788790632) (l := [102, 101, 116, 99, 104]) T e1 e9 hq hz rfl (by decide) (by decide) (by decide), zkI_s, p_isWq (X := 495672977012) (l := [115, 104, 105, 102, 116]) T e1 e9 hq hz rfl (by decide) (by decide) (by decide), zkI_s]
  unfold zwL zix zix zix zix
  generalize zww B t q = v
  by_cases h0 : v = [108, 101, 110, 100]
  · rw [if_pos h0, if_pos h0, if_neg z10]; rfl
  rw [if_neg h0, if_neg h0, if_pos rfl]
  by_cases h1 : v = [102, 101, 116, 99, 104]
  · rw [if_pos h1, if_pos h1, if_neg z10]; rfl
  rw [if_neg h1, if_neg h1, if_pos rfl]
  by_cases h2 : v = [115, 104, 105, 102, 116]
  · rw [if_pos h2, if_pos h2, if_neg z10]; rfl
  · rw [if_neg h2, if_neg h2, if_pos rfl]
/-- ahead of the rest of a clause whose kind is known -/
def zKw (nc t : Nat) (B : Nat → Nat) (tt q : Nat) (L : List Nat) (m : Nat) (I K : zTI) : Prop := zRd t B tt q L m I K ∧ zru (zbl B) t q = q ∧ I 11 8 = nI nc ∧ K 5 tt = nI nc ∧ K 0 15 = nI (nc + 1) ∧ nc < 12 ∧ zCx tt nc L (I 14) (K 4) ∧ L.length ≤ q ∧ zww B t q ≠ []
set_option maxHeartbeats 16000000 in
theorem p_dF {σ : zSg} {J J' : zTJ} {nc t tt q m : Nat} {B : Nat → Nat} {L : List Nat} {I K : zTI} (H : zKw nc t B tt q L m I K) (htt : tt < 6) (hv : zww B t q = [102, 101, 116, 99, 104]) : ∃ r I1 I1', qu_readClause σ I J = some (some (.int r), (zSC σ, I1, J)) ∧ qm_isDoingHere 1 K J' = some (some (.int r), (zSM, I1', J')) ∧ zOq nc t B tt L I K r I1 I1' := by
  obtain ⟨HR, hz, e8, e5, e15, hn, X0, hL, hne⟩ := H
  obtain ⟨⟨a1, a2, b1, b2, hq, T, b10⟩, C, e9, e13, hm, hnv⟩ := id HR
  rw [hz] at a2
  have hle := zru_le (P := zlr B) (t := t) q hq
  have hlt := zww_lt hne
  have hps := p_pass (J := J') T q K b2 b1 rfl hq
  rw [p_rcF T a1 a2 hq hv e8 hn, p_dhF (a := 60 * tt + 5 * nc) hps (by rw [zsI_no _ _ _ (by decide)]; exact C.2.1) (by rw [zsI_ne _ _ _ (by decide)]; exact e5) htt hn rfl]
  have HW := zRd_w HR hle
  unfold zW7
  have HZ : zRd t B tt (zru (zlr B) t q) (L ++ []) m (zsI (zsI (zsI (zsI (zsI (zsI I 11 2 (nI (zru (zbl B) t (zru (zlr B) t q)))) 11 8 (nI (nc + 1))) 14 (5 * nc + 0) 1) 14 (5 * nc + 2) (I 11 6)) 14 (5 * nc + 1) 0) 14 (5 * nc + 3) (I 11 6)) (zsI (zsI (zsI (zsI K 0 9 (nI (zru (zlr B) t q))) 4 (60 * tt + 5 * nc) 1) 4 (60 * tt + 5 * nc + 1) (zsI K 0 9 (nI (zru (zlr B) t q)) 3 tt)) 4 (60 * tt + 5 * nc + 3) (-1)) := by
    rw [List.append_nil]
    refine zRd_e HW (fun k hk => ?_) ?_ ?_ (fun k hk => ?_) ?_ ?_ ?_
    · rw [zsI_ne _ _ _ (by decide), zsI_ne _ _ _ (by decide), zsI_ne _ _ _ (by decide), zsI_ne _ _ _ (by decide), zsI_no _ _ _ (by omega)]
    · rw [zsI_ne _ _ _ (by decide), zsI_ne _ _ _ (by decide), zsI_ne _ _ _ (by decide), zsI_ne _ _ _ (by decide), zsI_ne _ _ _ (by decide)]
    · rw [zsI_ne _ _ _ (by decide), zsI_ne _ _ _ (by decide), zsI_ne _ _ _ (by decide), zsI_ne _ _ _ (by decide), zsI_ne _ _ _ (by decide)]
    · rw [zsI_ne _ _ _ (by decide), zsI_ne _ _ _ (by decide), zsI_ne _ _ _ (by decide)]
    · rw [zsI_ne _ _ _ (by decide), zsI_ne _ _ _ (by decide), zsI_ne _ _ _ (by decide)]
    · rw [zsI_ne _ _ _ (by decide), zsI_ne _ _ _ (by decide), zsI_ne _ _ _ (by decide)]
    · rw [zsI_ne _ _ _ (by decide), zsI_ne _ _ _ (by decide), zsI_ne _ _ _ (by decide)]
  have l0 : (L ++ ([] : List Nat)).length = L.length := by rw [List.append_nil]
  obtain ⟨r, I1, I1', h1, h2, h3⟩ := p_tail (σ := σ) (J := J) (J' := J') (kd := 1) (shf := 0) (ss := L.length) (a := 60 * tt + 5 * nc) HZ htt (by rw [l0]; omega) X0 hn rfl (fun i hi => by rw [zsI_no _ _ _ (by omega), zsI_no _ _ _ (by omega), zsI_no _ _ _ (by omega), zsI_no _ _ _ (by omega), zsI_ne _ _ _ (by decide), zsI_ne _ _ _ (by decide)]) (fun i hi => by rw [zsI_no _ _ _ (by omega), zsI_no _ _ _ (by omega), zsI_no _ _ _ (by omega), zsI_ne _ _ _ (by decide)]) (by rw [zsI_ne _ _ _ (by decide), zsI_ne _ _ _ (by decide), zsI_ne _ _ _ (by decide), zsI_ne _ _ _ (by decide), zsI_at]) (by rw [zsI_ne _ _ _ (by decide), zsI_ne _ _ _ (by decide), zsI_ne _ _ _ (by decide), zsI_no _ _ _ (by decide)]; exact e15) (by rw [zsI_ne _ _ _ (by decide), zsI_ne _ _ _ (by decide), zsI_ne _ _ _ (by decide), zsI_ne _ _ _ (by decide)]; exact e5) (by rw [zsI_no _ _ _ (by omega), zsI_no _ _ _ (by omega), zsI_no _ _ _ (by omega), zsI_at]; rfl) (by rw [zsI_no _ _ _ (by omega), zsI_at]; rfl) (by rw [zsI_no _ _ _ (by omega), zsI_no _ _ _ (by omega), zsI_at]; exact C.1) (by rw [zsI_at, l0]; exact C.1) (by rw [zsI_no _ _ _ (by omega), zsI_no _ _ _ (by omega), zsI_at]; rfl) (fun h => by omega) (fun h => by omega) (by omega) (by omega) (fun _ => rfl) (fun h => by omega)
  rw [h1, h2]
  exact ⟨r, I1, I1', rfl, rfl, zOq_t h3 (((((zIc.s (by omega)).tr (zIc.s (by omega))).tr (zIc.s (by omega))).tr (zIc.s (by omega))).tr ((zIc.s (by omega)).tr (zIc.s (by omega)))) ((((zIm_.s0 (by omega)).tr (zIm_.s4 (by omega))).tr (zIm_.s4 (by omega))).tr (zIm_.s4 (by omega)))⟩
