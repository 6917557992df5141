/-! ===== river ===== -/
theorem p_open {w c : Nat} (hw : zsn w c) {σ : zSg} {I : zTI} {J : zTJ} {t : Nat} {B : Nat → Nat} {M : Nat → Int32} (T : zTxt t B (I 1) M) : ∃ I1, qn_open w (nI t) σ I J = some (none, (zSC σ, I1, J)) ∧ I1 w 1 = nI t ∧ I1 w 2 = nI (zru (zbl B) t 0) ∧ I1 w 4 = 0 ∧ zTxt t B (I1 c) M ∧ (∀ i, i ≠ w → i ≠ c → I1 i = I i) ∧ ∀ k, k ≠ 1 → k ≠ 2 → k ≠ 4 → I1 w k = I w k := by
  have ht := T.1
  have hcw : c ≠ w := by rcases hw with ⟨rfl, rfl⟩ | ⟨rfl, rfl⟩ <;> decide
  have h1w : 1 ≠ w := by rcases hw with ⟨rfl, rfl⟩ | ⟨rfl, rfl⟩ <;> decide
  have e4 : (if (400 : Int32) < 400 then (400 : Int32) else 400) = 400 := if_neg (by decide)
  have e5 : (if (400 : Int32) < nI t then (400 : Int32) else nI t) = nI t := if_neg (fun h => by have := (nI_ltI (a := 400) (by omega) (by omega)).mp h; omega)
  have e6 : (if (0 : Int32) < nI t then nI t else 0) = nI t := by
    by_cases h : 0 < t
    · exact if_pos (nI_lt (a := 0) h (by omega))
    · rw [show t = 0 by omega]; rfl
  have T1 : zTxt t B (va_cpy (I 1) (I c) 0 0 t) M := ⟨ht, fun i hi => by
    rw [zva_in (by omega), show 0 + (i - 0) = i by omega]
    exact T.2 i hi⟩
  rw [t_qn_open w _ c hw]
  simp only [e4, e5, e6]
  rw [zif_t (show zrg 0 (nI t) 400 = true from zrg_n (a := 0) (n := t) rfl rfl (by omega) (by omega)), zif_t (show zrg 0 (nI t) 400 = true from zrg_n (a := 0) (n := t) rfl rfl (by omega) (by omega)), ztnn (by omega), zsI_ne _ _ _ h1w, zsI_ne _ _ _ hcw, p_skip hw T1 0 _ (by rw [zsI_no _ _ _ (by decide), zsI_at]; rfl) (by rw [zsI_no _ _ _ (by decide), zsI_no _ _ _ (by decide), zrI_ne _ _ (fun h => hcw h.symm), zsI_at]) (by rw [zsI_ne _ _ _ hcw, zsI_ne _ _ _ hcw, zrI_row]) (by omega), zkV_s]
  refine ⟨_, rfl, ?_, zsI_at _ _ _ _, ?_, ?_, fun i a b => ?_, fun k a b d => ?_⟩
  · rw [zsI_no _ _ _ (by decide), zsI_no _ _ _ (by decide), zsI_no _ _ _ (by decide), zrI_ne _ _ (fun h => hcw h.symm), zsI_at]
  · rw [zsI_no _ _ _ (by decide), zsI_at]
  · rw [zsI_ne _ _ _ hcw, zsI_ne _ _ _ hcw, zsI_ne _ _ _ hcw, zrI_row]
    exact T1
  · rw [zsI_ne _ _ _ a, zsI_ne _ _ _ a, zsI_ne _ _ _ a, zrI_ne _ _ b, zsI_ne _ _ _ a]
  · rw [zsI_no _ _ _ b, zsI_no _ _ _ d, zsI_no _ _ _ b, zrI_ne _ _ (fun h => hcw h.symm), zsI_no _ _ _ a]
theorem p_fillA {σ : zSg} {J : zTJ} : ∀ (d a : Nat) (I : zTI), a + d = 251 → qa_fill_53178_5 10 0 (nI a) (nI 251) (zSC σ) I J = some (none, (zSC σ, zrI I 10 (fun i => if a ≤ i ∧ i < 251 then 0 else I 10 i), J))
  | 0, a, I, h => by
    rw [t_qa_fill_53178_5, if_neg (show ¬ nI a < nI 251 from fun q => by have := (nI_ltI (by omega) (by omega)).mp q; omega), zrI_id]
    funext i
    rw [if_neg (by omega)]
  | d + 1, a, I, h => by
    rw [t_qa_fill_53178_5, if_pos (nI_lt (by omega) (by omega)), zar_s (k := 13) (n := 251) (rf := zno) rfl, zif_n (by omega) (by omega), ztnn (by omega), nI_1, p_fillA d (a + 1) _ (by omega)]
    rw [zrI_eq (I := I) (I1 := zsI I 10 a 0) (g := fun i => if a ≤ i ∧ i < 251 then 0 else I 10 i) (fun i q => zsI_ne _ _ _ q) ?_]
    funext i
    by_cases q : i = a
    · subst q
      rw [if_neg (by omega), zsI_at, if_pos (by omega)]
    · rw [zsI_no _ _ _ q]
      by_cases q2 : a + 1 ≤ i ∧ i < 251
      · rw [if_pos q2, if_pos (by omega)]
      · rw [if_neg q2, if_neg (by omega)]
theorem p_riv8 {J : zTJ} : ∀ (d k : Nat) (I : zTI), k + d = 6 → qm_river_8 (nI k) I J = (zkI (qm_readsAll (zsI (zrI I 6 (fun i => if k ≤ i ∧ i < 6 then 0 else I 6 i)) 0 8 1) J) zSM (fun r3 I1 J2 => (if r3 = 0 then (some (some (.int ((-2) - (I1 0 10))), (zSM, I1, J2))) else (qm_river_49 0 I1 J2))))
  | 0, k, I, h => by
    rw [t_qm_river_8, if_neg (show ¬ nI k < (6 : Int32) from fun q => by have := (nI_ltI (b := 6) (by omega) (by omega)).mp q; omega), zrI_id]
    funext i
    rw [if_neg (by omega)]
  | d + 1, k, I, h => by
    rw [t_qm_river_8, if_pos (show nI k < (6 : Int32) from nI_lt (b := 6) (by omega) (by omega)), zif_n (by omega) (by omega), ztnn (by omega), nI_1, p_riv8 d (k + 1) _ (by omega)]
    rw [zrI_eq (I := I) (I1 := zsI I 6 k 0) (g := fun i => if k ≤ i ∧ i < 6 then 0 else I 6 i) (fun i q => zsI_ne _ _ _ q) ?_]
    funext i
    by_cases q : i = k
    · subst q
      rw [if_neg (by omega), zsI_at, if_pos (by omega)]
    · rw [zsI_no _ _ _ q]
      by_cases q2 : k + 1 ≤ i ∧ i < 6
      · rw [if_pos q2, if_pos (by omega)]
      · rw [if_neg q2, if_neg (by omega)]
/-- the reference says what it has read -/
def zsd (R : Nat → Int32) : Nat → Int32 := fun j => if R 0 = 2 ∧ j = 18 then R 2 - 1 else R j
theorem p_riv49 {J : zTJ} : ∀ (d k : Nat) (I : zTI), k + d = 258 → (∀ i, i < k → I 10 i = I 6 i) → ∃ I1, qm_river_49 (nI k) I J = some (some (.int (I 6 1)), (zSM, I1, J)) ∧ (∀ j, j < 258 → I1 10 j = zsd (I 6) j) ∧ I1 0 25 = 0 ∧ (∀ i, i ≠ 0 → i ≠ 10 → I1 i = I i) ∧ ∀ k, k ≠ 25 → I1 0 k = I 0 k
  | 0, k, I, h, hI => by
    have hk : k = 258 := by omega
    subst hk
    rw [t_qm_river_49, if_neg (show ¬ nI 258 < (258 : Int32) by decide), hI 0 (by omega), hI 1 (by omega), hI 2 (by omega)]
    by_cases q : I 6 0 = 2
    · rw [if_pos q]
      refine ⟨_, rfl, fun j hj => ?_, zsI_at _ _ _ _, fun i a b => ?_, fun k a => ?_⟩
      · rw [zsI_ne _ _ _ (by decide)]
        unfold zsd
        by_cases e : j = 18
        · subst e
          rw [zsI_at, if_pos ⟨q, rfl⟩]
        · rw [zsI_no _ _ _ e, if_neg (fun h => e h.2), hI j hj]
      · rw [zsI_ne _ _ _ a, zsI_ne _ _ _ b]
      · rw [zsI_no _ _ _ a, zsI_ne _ _ _ (by decide)]
    · rw [if_neg q]
      refine ⟨_, rfl, fun j hj => ?_, zsI_at _ _ _ _, fun i a b => ?_, fun k a => ?_⟩
      · rw [zsI_ne _ _ _ (by decide)]
        unfold zsd
        rw [if_neg (fun h => q h.1), hI j hj]
      · rw [zsI_ne _ _ _ a]
      · rw [zsI_no _ _ _ a]
  | d + 1, k, I, h, hI => by
    rw [t_qm_river_49, if_pos (show nI k < (258 : Int32) from nI_lt (b := 258) (by omega) (by omega)), zif_n (by omega) (by omega), zif_n (by omega) (by omega), ztnn (by omega), nI_1]
    have e6 : zsI I 10 k (I 6 k) 6 = I 6 := zsI_ne _ _ _ (by decide)
    obtain ⟨I1, h1, h2, h3, h4, h5⟩ := p_riv49 (J := J) d (k + 1) (zsI I 10 k (I 6 k)) (by omega) (fun i hi => by
      rw [e6]
      by_cases q : i = k
      · subst q; rw [zsI_at]
      · rw [zsI_no _ _ _ q]; exact hI i (by omega))
    rw [e6] at h1 h2
    exact ⟨I1, h1, h2, h3, fun i a b => by rw [h4 i a b, zsI_ne _ _ _ b], fun k' a => by rw [h5 k' a, zsI_ne _ _ _ (by decide)]⟩
/-- the tape is empty again: nothing else that counts has changed -/
theorem zSta_rd {nb nk ns nr nh t j u : Nat} {I I' I1 I1' : zTI} (H : zSta nb nk ns nr nh t j u I I') (h3 : I1 3 = I 3) (h6 : I1 6 = I 6) (h25 : I1 25 = I 25) (h0 : ∀ k, k = 5 ∨ k = 7 ∨ k = 8 → I1 0 k = I 0 k) (h1 : I1 0 1 = 0) (g10 : I1' 10 = I' 10) (g11 : I1' 11 = I' 11) (g0 : ∀ k, k = 2 ∨ k = 22 ∨ k = 23 ∨ k = 25 → I1' 0 k = I' 0 k) (g1 : I1' 0 1 = 0) : zSta nb nk ns nr nh 0 j u I1 I1' := by
  obtain ⟨T, G, R, x, x0, n, e7, e8, e25, e5, e6⟩ := H
  refine ⟨⟨h1, g1, by omega, fun i hi => by omega⟩, by rw [h3, g10]; exact G, by rw [h3, h6, g11]; exact R, by rw [h3, g0 22 (by omega)]; exact x, by rw [g0 22 (by omega)]; exact x0, by rw [g0 23 (by omega)]; exact n, by rw [h0 7 (by omega)]; exact e7, by rw [h0 8 (by omega)]; exact e8, by rw [g0 25 (by omega)]; exact e25, by rw [h0 5 (by omega), g0 2 (by omega)]; exact e5, by rw [h25]; exact e6⟩
