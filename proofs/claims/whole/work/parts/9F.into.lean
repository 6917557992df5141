/-! ===== a river: its words, its numbers ===== -/
theorem p_isWq {J : zTJ} {t q : Nat} {B : Nat → Nat} {C : Nat → Int32} {I : zTI} {X : Int64} {l : List Nat} (T : zTxt t B C (I 1)) (e1 : I 0 1 = nI t) (e9 : I 0 9 = nI q) (hq : q ≤ t) (hz : zru (zbl B) t q = q) (hX : X = zn6 (zpq l.reverse)) (hl : ∀ a, a ∈ l → 0 < a ∧ a < 256) (h0 : 0 < l.length) (h7 : l.length < 8) : qm_isWord X I J = some (some (.int (if zww B t q = l then 1 else 0)), (zSM, I, J)) := by
  rw [hX, p_isW T e1 e9 hq hl h0 h7, hz, ← e9, zsI_id]
theorem p_isRW {J : zTJ} {t q : Nat} {B : Nat → Nat} {C : Nat → Int32} {I : zTI} (T : zTxt t B C (I 1)) (e1 : I 0 1 = nI t) (e9 : I 0 9 = nI q) (hq : q ≤ t) (hz : zru (zbl B) t q = q) : qm_isRiverWord I J = some (some (.int (if zix (zww B t q) zwR 0 = -1 then 0 else 1)), (zSM, I, J)) := by
  rw [t_qm_isRiverWord, p_isWq T e1 e9 hq hz zwR_0 (by decide) (by decide) (by decide), zkI_s, p_isWq T e1 e9 hq hz zwR_1 (by decide) (by decide) (by decide), zkI_s, p_isWq T e1 e9 hq hz zwR_2 (by decide) (by decide) (by decide), zkI_s, p_isWq T e1 e9 hq hz zwR_3 (by decide) (by decide) (by decide), zkI_s, p_isWq T e1 e9 hq hz zwR_4 (by decide) (by decide) (by decide), zkI_s, p_isWq T e1 e9 hq hz zwR_5 (by decide) (by decide) (by decide), zkI_s]
  unfold zwR zix zix zix zix zix zix zix
  generalize zww B t q = v
  by_cases h0 : v = [98, 97, 114, 103, 101]
  · rw [if_pos h0, if_pos h0, if_neg z10, if_neg (show ¬ nI 0 = (-1 : Int32) by decide)]
  rw [if_neg h0, if_neg h0, if_pos rfl]
  by_cases h1 : v = [98, 111, 111, 107]
  · rw [if_pos h1, if_pos h1, if_neg z10, if_neg (show ¬ nI (0 + 1) = (-1 : Int32) by decide)]
  rw [if_neg h1, if_neg h1, if_pos rfl]
  by_cases h2 : v = [115, 116, 111, 112]
  · rw [if_pos h2, if_pos h2, if_neg z10, if_neg (show ¬ nI (0 + 1 + 1) = (-1 : Int32) by decide)]
  rw [if_neg h2, if_neg h2, if_pos rfl]
  by_cases h3 : v = [114, 101, 97, 100, 101, 114]
  · rw [if_pos h3, if_pos h3, if_neg z10, if_neg (show ¬ nI (0 + 1 + 1 + 1) = (-1 : Int32) by decide)]
  rw [if_neg h3, if_neg h3, if_pos rfl]
  by_cases h4 : v = [119, 105, 115, 104]
  · rw [if_pos h4, if_pos h4, if_neg z10, if_neg (show ¬ nI (0 + 1 + 1 + 1 + 1) = (-1 : Int32) by decide)]
  rw [if_neg h4, if_neg h4, if_pos rfl]
  by_cases h5 : v = [104, 111, 108, 101]
  · rw [if_pos h5, if_pos h5, if_neg z10, if_neg (show ¬ nI (0 + 1 + 1 + 1 + 1 + 1) = (-1 : Int32) by decide)]
  · rw [if_neg h5, if_neg h5, if_pos rfl, if_pos rfl]
/-- what reading a river leaves as it is -/
def zGc (I I1 : zTI) : Prop := (∀ i, i ≠ 7 → i ≠ 10 → I1 i = I i) ∧ ∀ k, k ≠ 2 → k ≠ 3 → k ≠ 4 → I1 7 k = I 7 k
def zGm (I I1 : zTI) : Prop := (∀ i, i ≠ 0 → i ≠ 6 → I1 i = I i) ∧ ∀ k, k ≠ 9 → k ≠ 10 → k ≠ 11 → I1 0 k = I 0 k
theorem s7 : zsn 7 8 := Or.inl ⟨rfl, rfl⟩
theorem p_into {σ : zSg} {I I' : zTI} {J J' : zTJ} {t p x y : Nat} {B : Nat → Nat} {lo hi : Int32} (L : zLx t B 7 8 p I I') (hx : x < 251) (hy : y < 258) : ∃ r I1 I1', qr_readInto (nI x) lo hi σ I J = some (some (.int r), (zSC σ, I1, J)) ∧ qm_cellHere (nI y) lo hi I' J' = some (some (.int r), (zSM, I1', J')) ∧ zGc I I1 ∧ zGm I' I1' ∧ ((r = 0 ∧ zBad 7 I1 I1') ∨ (r = 1 ∧ ∃ p1 v, zLx t B 7 8 p1 I1 I1' ∧ p < p1 ∧ v < 100000 ∧ I1 10 = upd (I 10) x (nI v) ∧ I1' 6 = upd (I' 6) y (nI v) ∧ I1 7 3 = nI v ∧ I1' 0 11 = nI v ∧ ¬ nI v < lo ∧ ¬ hi < nI v)) := by
  obtain ⟨r, I1, I1', h1, h2, h3, h4, h5⟩ := p_number s7 (σ := σ) (J := J) (J' := J') (lo := lo) (hi := hi) L
  rw [t_qr_readInto, h1, zkI_s, t_qm_cellHere, h2, zkI_s]
  rcases h5 with ⟨rfl, hb⟩ | ⟨rfl, p1, v, l1, l2, l3, l4, l5, l6, l7⟩
  · rw [if_pos rfl, if_pos rfl]
    exact ⟨0, I1, I1', rfl, rfl, ⟨fun i a _ => h3.1 i a, h3.2⟩, ⟨fun i a _ => h4.1 i a, h4.2⟩, Or.inl ⟨rfl, hb⟩⟩
  · rw [if_neg z10, if_neg z10, if_neg (znn (by omega)), if_pos (show nI x < (251 : Int32) from nI_lt (b := 251) hx (by omega)), zif_n hx (by omega), ztnn (by omega), zif_n hy (by omega), ztnn (by omega), l4, l5]
    obtain ⟨m1, m2, m3, m4, m5, m6, m7⟩ := l1
    refine ⟨1, _, _, rfl, rfl, ⟨fun i a b => ?_, fun k a b d => ?_⟩, ⟨fun i a b => ?_, fun k a b d => ?_⟩, Or.inr ⟨rfl, p1, v, ⟨?_, ?_, ?_, ?_, m5, ?_, ?_⟩, l2, l3, ?_, ?_, ?_, ?_, l6, l7⟩⟩
    · rw [zsI_ne _ _ _ b, h3.1 i a]
    · rw [zsI_ne _ _ _ (by decide), h3.2 k a b d]
    · rw [zsI_ne _ _ _ b, h4.1 i a]
    · rw [zsI_ne _ _ _ (by decide), h4.2 k a b d]
    · rw [zsI_ne _ _ _ (by decide)]; exact m1
    · rw [zsI_ne _ _ _ (by decide)]; exact m2
    · rw [zsI_ne _ _ _ (by decide)]; exact m3
    · rw [zsI_ne _ _ _ (by decide)]; exact m4
    · rw [zsI_ne _ _ _ (by decide), zsI_ne _ _ _ (by decide)]; exact m6
    · rw [zsI_ne _ _ _ (by decide)]; exact m7
    · rw [zsI_row, h3.1 10 (by decide)]
    · rw [zsI_row, h4.1 6 (by decide)]
    · rw [zsI_ne _ _ _ (by decide)]; exact l4
    · rw [zsI_ne _ _ _ (by decide)]; exact l5
