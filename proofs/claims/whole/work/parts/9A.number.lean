/-! ===== a number, in both ===== -/
set_option maxHeartbeats 4000000 in
theorem p_numM {J : zTJ} {t p : Nat} {B : Nat → Nat} {C M : Nat → Int32} {lo hi : Int32} (T : zTxt t B C M) (hp : p ≤ t) : ∀ q (I : zTI), p ≤ q → q ≤ t → (∀ i, p ≤ i → i < q → zdi B i = true) → I 0 9 = nI q → I 0 1 = nI t → I 0 10 = 0 → I 1 = M → qm_numberHere_34 lo hi (nI p) (nI (zva B p (min (q - p) 5))) I J = (if 5 < zru (zdi B) t q - p ∨ nI (zva B p (min (zru (zdi B) t q - p) 5)) < lo ∨ hi < nI (zva B p (min (zru (zdi B) t q - p) 5)) then some (some (.int 0), (zSM, zsI (zsI (zsI I 0 9 (nI (zru (zdi B) t q))) 0 11 (nI (zva B p (min (zru (zdi B) t q - p) 5)))) 0 10 (1 + 8 * nI p + 1), J)) else some (some (.int 1), (zSM, zsI (zsI I 0 9 (nI (zru (zdi B) t q))) 0 11 (nI (zva B p (min (zru (zdi B) t q - p) 5))), J))) := by
  have ht := T.1
  refine zru_ind (P := zdi B) (t := t) (fun q h I hq hqt hall e2 e1 e10 eM => ?_) (fun q h hP ih I hq hqt hall e2 e1 e10 eM => ?_)
  · have eI : zsI I 0 9 (nI q) = I := by rw [← e2, zsI_id]
    have ef : ∀ v, qm_fails 1 (nI p) (zsI I 0 11 v) J = some (some (.int 0), (zSM, zsI (zsI I 0 11 v) 0 10 (1 + 8 * nI p + 1), J)) := fun v => by
      rw [t_qm_fails, if_pos (by rw [zsI_no _ _ _ (by decide)]; exact e10)]
    rw [zru_n h, eI, t_qm_numberHere_34, e2, p_isDig (C := C) (by rw [eM]; exact T) e1 (by omega), zkI_s, if_neg (show ¬ zhr (zdi B) t q from h), if_pos rfl, e2, zI_subn hq (by omega), ef, zkI_s, if_pos rfl, p_in2 (a := lo) (b := hi) (Int32.toInt_toInt64 lo) (Int32.toInt_toInt64 hi), zkI_s, ef, zkI_s, if_pos rfl]
    generalize nI (zva B p (min (q - p) 5)) = v
    by_cases d5 : 5 < q - p
    · rw [if_pos (show (5 : Int32) < nI (q - p) from nI_lt (a := 5) d5 (by omega)), if_pos (Or.inl d5)]
    · rw [if_neg (show ¬ (5 : Int32) < nI (q - p) from fun h => d5 ((nI_ltI (a := 5) (by omega) (by omega)).mp h))]
      by_cases l1 : v < lo
      · rw [if_neg (show ¬ (¬ v < lo ∧ ¬ hi < v) from fun h => h.1 l1), if_pos rfl, if_pos (Or.inr (Or.inl l1))]
      · by_cases l2 : hi < v
        · rw [if_neg (show ¬ (¬ v < lo ∧ ¬ hi < v) from fun h => h.2 l2), if_pos rfl, if_pos (Or.inr (Or.inr l2))]
        · rw [if_pos (show ¬ v < lo ∧ ¬ hi < v from ⟨l1, l2⟩), if_neg z10, if_neg (show ¬ (5 < q - p ∨ v < lo ∨ hi < v) from fun h => by rcases h with h | h | h; exact d5 h; exact l1 h; exact l2 h)]
  · have g := of_decide_eq_true hP
    have hall' : ∀ i, p ≤ i → i < q + 1 → zdi B i = true := fun i h1 h2 => by
      by_cases e : i = q
      · subst e; exact hP
      · exact hall i h1 (by omega)
    have ih' := fun (I1 : zTI) a b c d => ih I1 (by omega) (by omega) hall' a b c d
    rw [t_qm_numberHere_34, e2, p_isDig (C := C) (by rw [eM]; exact T) e1 (by omega), zkI_s, if_pos (show zhr (zdi B) t q from ⟨h, hP⟩), if_neg z10, e2, zI_subn hq (by omega), nI_1]
    have ih2 := ih' (zsI I 0 9 (nI (q + 1))) (zsI_at _ _ _ _) (by rw [zsI_no _ _ _ (by decide)]; exact e1) (by rw [zsI_no _ _ _ (by decide)]; exact e10) (by rw [zsI_ne _ _ _ (by decide)]; exact eM)
    rw [zsI_sI] at ih2
    by_cases d5 : q - p < 5
    · have hv := zva_le (B := B) (p := p) (q - p) (fun i hi => by
        have := of_decide_eq_true (hall (p + i) (by omega) (by omega))
        omega)
      have hpw : 10 ^ (q - p) ≤ 10 ^ 5 := Nat.pow_le_pow_right (by omega) (by omega)
      have em : min (q - p) 5 = q - p := by omega
      have em1 : min (q + 1 - p) 5 = q - p + 1 := by omega
      have hM : M q = nI (B q) := by
        apply Int32.toInt_inj.mp
        rw [(T.2 q h).2.2, nI_toInt (by omega), if_pos (by omega)]
      have ev : 10 * nI (zva B p (q - p)) + M q - 48 = nI (zva B p (q - p + 1)) := by
        rw [hM, show (10 : Int32) = nI 10 from rfl, zI_muln (by omega) (by omega) (by omega), show nI (10 * zva B p (q - p)) + nI (B q) = nI (10 * zva B p (q - p) + B q) from nI_add _ _, show (48 : Int32) = nI 48 from rfl, zI_subn (by omega) (by omega)]
        show _ = nI (10 * zva B p (q - p) + (B (p + (q - p)) - 48))
        rw [show p + (q - p) = q by omega]
        congr 1
        omega
      rw [if_pos (show nI (q - p) < (5 : Int32) from nI_lt (b := 5) d5 (by omega)), zif_n (by omega) (by omega), ztnn (by omega), eM, em, ev, ← em1, ih2, zru_y h hP]
    · rw [if_neg (show ¬ nI (q - p) < (5 : Int32) from fun h' => d5 ((nI_ltI (b := 5) (by omega) (by omega)).mp h')), show min (q - p) 5 = min (q + 1 - p) 5 by omega, ih2, zru_y h hP]
/-- where both readers stand -/
def zLx (t : Nat) (B : Nat → Nat) (w c p : Nat) (I I' : zTI) : Prop := I w 1 = nI t ∧ I w 2 = nI (zru (zbl B) t p) ∧ I' 0 1 = nI t ∧ I' 0 9 = nI p ∧ p ≤ t ∧ zTxt t B (I c) (I' 1) ∧ I' 0 10 = 0
def zFc (w : Nat) (I I1 : zTI) : Prop := (∀ i, i ≠ w → I1 i = I i) ∧ ∀ k, k ≠ 2 → k ≠ 3 → k ≠ 4 → I1 w k = I w k
def zFm (I I1 : zTI) : Prop := (∀ i, i ≠ 0 → I1 i = I i) ∧ ∀ k, k ≠ 9 → k ≠ 10 → k ≠ 11 → I1 0 k = I 0 k
/-- both have failed alike -/
def zBad (w : Nat) (I1 I1' : zTI) : Prop := I1 w 4 = I1' 0 10 ∧ I1' 0 10 ≠ 0
theorem zcode {p k : Nat} (hp : p ≤ 400) (hk : k ≤ 4) : (1 : Int32) + 8 * nI p + nI k = nI (1 + 8 * p + k) ∧ nI (1 + 8 * p + k) ≠ 0 := by
  refine ⟨?_, fun e => by have := znI (b := 0) (by omega) (by omega) e; omega⟩
  rw [show (8 : Int32) = nI 8 from rfl, zI_muln (by omega) (by omega) (by omega), show (1 : Int32) = nI 1 from rfl, show nI 1 + nI (8 * p) = nI (1 + 8 * p) from nI_add _ _]
  exact nI_add _ _
set_option maxHeartbeats 4000000 in
theorem p_number {w c : Nat} (hw : zsn w c) {σ : zSg} {I I' : zTI} {J J' : zTJ} {t p : Nat} {B : Nat → Nat} {lo hi : Int32} (L : zLx t B w c p I I') : ∃ r I1 I1', qn_readNumber w lo hi σ I J = some (some (.int r), (zSC σ, I1, J)) ∧ qm_numberHere lo hi I' J' = some (some (.int r), (zSM, I1', J')) ∧ zFc w I I1 ∧ zFm I' I1' ∧ ((r = 0 ∧ zBad w I1 I1') ∨ (r = 1 ∧ ∃ p1 v, zLx t B w c p1 I1 I1' ∧ p < p1 ∧ v < 100000 ∧ I1 w 3 = nI v ∧ I1' 0 11 = nI v ∧ ¬ nI v < lo ∧ ¬ hi < nI v)) := by
  obtain ⟨a1, a2, b1, b2, hp, T, b10⟩ := L
  have hcw : c ≠ w := by rcases hw with ⟨rfl, rfl⟩ | ⟨rfl, rfl⟩ <;> decide
  have hw1 : w ≠ 1 := by rcases hw with ⟨rfl, rfl⟩ | ⟨rfl, rfl⟩ <;> decide
  have ht := T.1
  have hq := zru_le (P := zbl B) (t := t) p hp
  have hqp := zru_ge (P := zbl B) (t := t) p
  have hC := p_numC hw (σ := σ) (J := J) (lo := lo) (hi := hi) T hq _ (zsI I w 3 0) (Nat.le_refl _) hq (fun i _ _ => by omega) (by rw [zsI_no _ _ _ (by decide)]; exact a2) (by rw [zsI_no _ _ _ (by decide)]; exact a1) (by rw [zsI_at, Nat.sub_self]; rfl) (zsI_ne _ _ _ hcw)
  rw [Nat.sub_self, zsI_sI] at hC
  rw [t_qn_readNumber w _ _ c hw, a2, show qn_readNumber_13 w lo hi (nI (zru (zbl B) t p)) 0 σ (zsI I w 3 0) J = _ from hC]
  rw [t_qm_numberHere, p_see T p I' b2 b1 rfl hp, zkI_s, zsI_at, p_isDig (C := I c) (by rw [zsI_ne _ _ _ (by decide)]; exact T) (by rw [zsI_no _ _ _ (by decide)]; exact b1) (by omega), zkI_s]
  generalize zru (zbl B) t p = q at *
  unfold zend
  by_cases g : zhr (zdi B) t q
  · have hM := p_numM (J := J') (lo := lo) (hi := hi) T hq q (zsI I' 0 9 (nI q)) (Nat.le_refl _) hq (fun i _ _ => by omega) (zsI_at _ _ _ _) (by rw [zsI_no _ _ _ (by decide)]; exact b1) (by rw [zsI_no _ _ _ (by decide)]; exact b10) (zsI_ne _ _ _ (by decide))
    rw [Nat.sub_self, zsI_sI] at hM
    rw [if_pos g, if_neg z10, zsI_at, show qm_numberHere_34 lo hi (nI q) 0 (zsI I' 0 9 (nI q)) J' = _ from hM]
    have hne : ¬ zru (zdi B) t q - q = 0 := by
      rw [zru_y g.1 g.2]
      have := zru_ge (P := zdi B) (t := t) (q + 1)
      omega
    have hel := zru_le (P := zdi B) (t := t) q hq
    have hv := znu_lt (B := B) (t := t) (p := q)
    unfold znu at hv
    rw [if_neg hne, zsI_no _ _ _ (show 3 ≠ 2 by decide), zsI_at]
    generalize zru (zdi B) t q = e at *
    generalize zva B q (min (e - q) 5) = v at *
    by_cases bad : 5 < e - q ∨ nI v < lo ∨ hi < nI v
    · rw [if_pos bad, if_pos bad]
      refine ⟨0, _, _, rfl, rfl, ⟨fun i hi => ?_, fun k h2 h3 h4 => ?_⟩, ⟨fun i hi => ?_, fun k h2 h3 h4 => ?_⟩, Or.inl ⟨rfl, ?_, ?_⟩⟩
      · rw [zsI_ne _ _ _ hi, zsI_ne _ _ _ hi, zsI_ne _ _ _ hi]
      · rw [zsI_no _ _ _ h4, zsI_no _ _ _ h2, zsI_no _ _ _ h3]
      · rw [zsI_ne _ _ _ hi, zsI_ne _ _ _ hi, zsI_ne _ _ _ hi]
      · rw [zsI_no _ _ _ h3, zsI_no _ _ _ h4, zsI_no _ _ _ h2]
      · rw [zsI_at, zsI_at]
      · rw [zsI_at, show (1 : Int32) + 8 * nI q + 1 = _ from (zcode (k := 1) (by omega) (by omega)).1]
        exact (zcode (k := 1) (by omega) (by omega)).2
    · rw [if_neg bad, if_neg bad]
      refine ⟨1, _, _, rfl, rfl, ⟨fun i hi => ?_, fun k h2 h3 h4 => ?_⟩, ⟨fun i hi => ?_, fun k h2 h3 h4 => ?_⟩, Or.inr ⟨rfl, e, v, ⟨?_, ?_, ?_, ?_, hel, ?_, ?_⟩, by omega, hv, ?_, ?_, fun h => bad (Or.inr (Or.inl h)), fun h => bad (Or.inr (Or.inr h))⟩⟩
      · rw [zsI_ne _ _ _ hi, zsI_ne _ _ _ hi, zsI_ne _ _ _ hi]
      · rw [zsI_no _ _ _ h2, zsI_no _ _ _ h2, zsI_no _ _ _ h3]
      · rw [zsI_ne _ _ _ hi, zsI_ne _ _ _ hi]
      · rw [zsI_no _ _ _ h4, zsI_no _ _ _ h2]
      · rw [zsI_no _ _ _ (by decide), zsI_no _ _ _ (by decide), zsI_no _ _ _ (by decide)]; exact a1
      · rw [zsI_at]
      · rw [zsI_no _ _ _ (by decide), zsI_no _ _ _ (by decide)]; exact b1
      · rw [zsI_no _ _ _ (by decide), zsI_at]
      · rw [zsI_ne _ _ _ hcw, zsI_ne _ _ _ hcw, zsI_ne _ _ _ hcw, zsI_ne _ _ _ (by decide), zsI_ne _ _ _ (by decide)]; exact T
      · rw [zsI_no _ _ _ (by decide), zsI_no _ _ _ (by decide)]; exact b10
      · rw [zsI_no _ _ _ (by decide), zsI_no _ _ _ (by decide), zsI_at]
      · rw [zsI_at]
  · rw [if_neg g, if_pos rfl, zru_n g, Nat.sub_self, if_pos rfl, zsI_at, t_qm_fails, if_pos (by rw [zsI_no _ _ _ (by decide)]; exact b10), zkI_s, zif_t (show zbo 0 = true by decide)]
    refine ⟨0, _, _, rfl, rfl, ⟨fun i hi => ?_, fun k h2 h3 h4 => ?_⟩, ⟨fun i hi => ?_, fun k h2 h3 h4 => ?_⟩, Or.inl ⟨rfl, ?_, ?_⟩⟩
    · rw [zsI_ne _ _ _ hi, zsI_ne _ _ _ hi, zsI_ne _ _ _ hi]
    · rw [zsI_no _ _ _ h4, zsI_no _ _ _ h2, zsI_no _ _ _ h3]
    · rw [zsI_ne _ _ _ hi, zsI_ne _ _ _ hi]
    · rw [zsI_no _ _ _ h3, zsI_no _ _ _ h2]
    · rw [zsI_at, zsI_at]
    · rw [zsI_at, show (1 : Int32) + 8 * nI q + 0 = _ from (zcode (k := 0) (by omega) (by omega)).1]
      exact (zcode (k := 0) (by omega) (by omega)).2
