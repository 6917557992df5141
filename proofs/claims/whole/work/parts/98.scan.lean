/-! ===== both scanners: blanks, digits, letters ===== -/
theorem p_skip {w c : Nat} (hw : zsn w c) {σ : zSg} {J : zTJ} {t : Nat} {B : Nat → Nat} {C M : Nat → Int32} (T : zTxt t B C M) : ∀ p (I : zTI), I w 2 = nI p → I w 1 = nI t → I c = C → p ≤ t → qn_skipBlanks w σ I J = some (none, (zSC σ, zsI I w 2 (nI (zru (zbl B) t p)), J)) := by
  have hcw : c ≠ w := by rcases hw with ⟨rfl, rfl⟩ | ⟨rfl, rfl⟩ <;> decide
  have ht := T.1
  refine zru_ind (P := zbl B) (t := t) (fun p h I e2 e1 eC hp => ?_) (fun p h hP ih I e2 e1 eC hp => ?_)
  · rw [t_qn_skipBlanks w c hw, e2, e1, zru_n h, ← e2, zsI_id]
    by_cases q : p < t
    · rw [e2, if_pos (nI_lt q (by omega)), zif_n (by omega) (by omega), ztnn (by omega), eC, if_neg (fun h' => h ⟨q, (zTxt_bl T q).1.mp h'⟩)]
    · rw [e2, if_neg (fun h' => q ((nI_ltI (by omega) (by omega)).mp h'))]
  · rw [t_qn_skipBlanks w c hw, e2, e1, if_pos (nI_lt h (by omega)), zif_n (by omega) (by omega), ztnn (by omega), eC, if_pos ((zTxt_bl T h).1.mpr hP), nI_1, ih _ (zsI_at _ _ _ _) (by rw [zsI_no _ _ _ (by decide)]; exact e1) (by rw [zsI_ne _ _ _ hcw]; exact eC) (by omega), zsI_sI, zru_y h hP]
theorem p_see {J : zTJ} {t : Nat} {B : Nat → Nat} {C M : Nat → Int32} (T : zTxt t B C M) : ∀ p (I : zTI), I 0 9 = nI p → I 0 1 = nI t → I 1 = M → p ≤ t → qm_see I J = some (some (.int (zby B t (zru (zbl B) t p))), (zSM, zsI I 0 9 (nI (zru (zbl B) t p)), J)) := by
  have ht := T.1
  refine zru_ind (P := zbl B) (t := t) (fun p h I e2 e1 eM hp => ?_) (fun p h hP ih I e2 e1 eM hp => ?_)
  · rw [t_qm_see, e2, e1, zru_n h, ← e2, zsI_id, e2]
    unfold zby
    by_cases q : p < t
    · rw [if_pos (nI_lt q (by omega)), if_pos (nI_lt q (by omega)), if_pos q, zif_n (by omega) (by omega), zif_n (by omega) (by omega), ztnn (by omega), eM, if_neg (fun h' => h ⟨q, (zTxt_bl T q).2.1.mp h'⟩), (zTxt_bl T q).2.2]
    · have q' : ¬ nI p < nI t := fun h' => q ((nI_ltI (by omega) (by omega)).mp h')
      rw [if_neg q', if_neg q', if_neg q]
  · rw [t_qm_see, e2, e1, if_pos (nI_lt h (by omega)), zif_n (by omega) (by omega), ztnn (by omega), eM, if_pos ((zTxt_bl T h).2.1.mpr hP), nI_1, ih _ (zsI_at _ _ _ _) (by rw [zsI_no _ _ _ (by decide)]; exact e1) (by rw [zsI_ne _ _ _ (by decide)]; exact eM) (by omega), zsI_sI, zru_y h hP]
abbrev zhr (P : Nat → Bool) (t p : Nat) : Prop := p < t ∧ P p = true
theorem p_isDig {I : zTI} {J : zTJ} {t p : Nat} {B : Nat → Nat} {C : Nat → Int32} (T : zTxt t B C (I 1)) (e1 : I 0 1 = nI t) (hp : p ≤ 400) : qm_isDigit (nI p) I J = some (some (.int (if zhr (zdi B) t p then 1 else 0)), (zSM, I, J)) := by
  have ht := T.1
  rw [t_qm_isDigit, e1]
  by_cases q : p < t
  · obtain ⟨-, -, h3, h4⟩ := zTxt_in T q (a := 48) (b := 57) (by omega) (by omega)
    rw [if_pos (nI_lt q (by omega)), zif_n (by omega) (by omega), zif_n (by omega) (by omega), ztnn (by omega)]
    by_cases g : zdi B p = true
    · have g' := of_decide_eq_true g
      rw [if_pos (show zhr (zdi B) t p from ⟨q, g⟩), if_neg (fun h => by have := h3.mp (Or.inl h); omega), if_neg (fun h => by have := h3.mp (Or.inr h); omega)]
    · have g' : ¬ (48 ≤ B p ∧ B p ≤ 57) := fun h => g (decide_eq_true h)
      rw [if_neg (show ¬ zhr (zdi B) t p from fun h => g h.2)]
      rcases h3.mpr (by omega) with h | h
      · rw [if_pos (show I 1 p < 48 from h)]
      · by_cases h' : I 1 p < 48
        · rw [if_pos h']
        · rw [if_neg h', if_pos (show (57 : Int32) < I 1 p from h)]
  · rw [if_neg (fun h' => q ((nI_ltI (by omega) (by omega)).mp h')), if_neg (show ¬ zhr (zdi B) t p from fun h => q h.1)]
theorem p_isLet {I : zTI} {J : zTJ} {t p : Nat} {B : Nat → Nat} {C : Nat → Int32} (T : zTxt t B C (I 1)) (e1 : I 0 1 = nI t) (hp : p < 2000) : qm_isLetter (nI p) I J = some (some (.int (if zhr (zlr B) t p then 1 else 0)), (zSM, I, J)) := by
  have ht := T.1
  rw [t_qm_isLetter, e1]
  by_cases q : p < t
  · obtain ⟨-, -, h3, h4⟩ := zTxt_in T q (a := 97) (b := 122) (by omega) (by omega)
    rw [if_pos (nI_lt q (by omega)), zif_n (by omega) (by omega), zif_n (by omega) (by omega), ztnn (by omega)]
    by_cases g : zlr B p = true
    · have g' := of_decide_eq_true g
      rw [if_pos (show zhr (zlr B) t p from ⟨q, g⟩), if_neg (fun h => by have := h3.mp (Or.inl h); omega), if_neg (fun h => by have := h3.mp (Or.inr h); omega)]
    · have g' : ¬ (97 ≤ B p ∧ B p ≤ 122) := fun h => g (decide_eq_true h)
      rw [if_neg (show ¬ zhr (zlr B) t p from fun h => g h.2)]
      rcases h3.mpr (by omega) with h | h
      · rw [if_pos (show I 1 p < 97 from h)]
      · by_cases h' : I 1 p < 97
        · rw [if_pos h']
        · rw [if_neg h', if_pos (show (122 : Int32) < I 1 p from h)]
  · rw [if_neg (fun h' => q ((nI_ltI (by omega) (by omega)).mp h')), if_neg (show ¬ zhr (zlr B) t p from fun h => q h.1)]
theorem p_atDig {w c : Nat} (hw : zsn w c) {σ : zSg} {I : zTI} {J : zTJ} {t p : Nat} {B : Nat → Nat} {M : Nat → Int32} (T : zTxt t B (I c) M) (e1 : I w 1 = nI t) (e2 : I w 2 = nI p) (hp : p ≤ 400) : qn_isAtDigit w σ I J = some (some (.int (if zhr (zdi B) t p then 1 else 0)), (zSC σ, I, J)) := by
  have ht := T.1
  rw [t_qn_isAtDigit w c hw, e1, e2, if_neg (znn (by omega))]
  by_cases q : p < t
  · obtain ⟨h1, h2, -⟩ := zTxt_in T q (a := 48) (b := 57) (by omega) (by omega)
    rw [if_pos (nI_lt q (by omega)), zif_n (by omega) (by omega), zif_n (by omega) (by omega), ztnn (by omega)]
    by_cases g : zdi B p = true
    · have g' := of_decide_eq_true g
      rw [if_pos (show zhr (zdi B) t p from ⟨q, g⟩), if_neg (fun h => by have := h1.mp h; omega), if_neg (fun h => by have := h2.mp h; omega)]
    · have g' : ¬ (48 ≤ B p ∧ B p ≤ 57) := fun h => g (decide_eq_true h)
      rw [if_neg (show ¬ zhr (zdi B) t p from fun h => g h.2)]
      by_cases h : B p < 48
      · rw [if_pos (show I c p < 48 from h1.mpr h)]
      · rw [if_neg (show ¬ I c p < 48 from fun h' => h (h1.mp h')), if_pos (show (57 : Int32) < I c p from h2.mpr (by omega))]
  · rw [if_neg (fun h' => q ((nI_ltI (by omega) (by omega)).mp h')), if_neg (show ¬ zhr (zdi B) t p from fun h => q h.1)]
theorem p_wEnd {w c : Nat} (hw : zsn w c) {σ : zSg} {I : zTI} {J : zTJ} {t : Nat} {B : Nat → Nat} {M : Nat → Int32} (T : zTxt t B (I c) M) (e1 : I w 1 = nI t) : ∀ p, p ≤ 400 → qn_wordEnd_5 w (nI p) σ I J = some (some (.int (nI (zru (zlr B) t p))), (zSC σ, I, J)) := by
  have ht := T.1
  refine zru_ind (P := zlr B) (t := t) (fun p h hp => ?_) (fun p h hP ih hp => ?_)
  · rw [t_qn_wordEnd_5 w _ c hw, e1, zru_n h]
    by_cases q : p < t
    · obtain ⟨h1, h2, -⟩ := zTxt_in T q (a := 97) (b := 122) (by omega) (by omega)
      have g' : ¬ (97 ≤ B p ∧ B p ≤ 122) := fun h' => h ⟨q, decide_eq_true h'⟩
      rw [if_pos (nI_lt q (by omega)), zif_n (by omega) (by omega), zif_n (by omega) (by omega), ztnn (by omega)]
      by_cases h : B p < 97
      · rw [if_pos (show I c p < 97 from h1.mpr h)]
      · rw [if_neg (show ¬ I c p < 97 from fun h' => h (h1.mp h')), if_pos (show (122 : Int32) < I c p from h2.mpr (by omega))]
    · rw [if_neg (fun h' => q ((nI_ltI (by omega) (by omega)).mp h'))]
  · obtain ⟨h1, h2, -⟩ := zTxt_in T h (a := 97) (b := 122) (by omega) (by omega)
    have g' := of_decide_eq_true hP
    rw [t_qn_wordEnd_5 w _ c hw, e1, if_pos (nI_lt h (by omega)), zif_n (by omega) (by omega), zif_n (by omega) (by omega), ztnn (by omega), if_neg (fun h => by have := h1.mp h; omega), if_neg (fun h => by have := h2.mp h; omega), nI_1, ih (by omega), zru_y h hP]
theorem p_pass {J : zTJ} {t : Nat} {B : Nat → Nat} {C M : Nat → Int32} (T : zTxt t B C M) : ∀ p (I : zTI), I 0 9 = nI p → I 0 1 = nI t → I 1 = M → p ≤ t → qm_passWord I J = some (none, (zSM, zsI I 0 9 (nI (zru (zlr B) t p)), J)) := by
  have ht := T.1
  refine zru_ind (P := zlr B) (t := t) (fun p h I e2 e1 eM hp => ?_) (fun p h hP ih I e2 e1 eM hp => ?_)
  · rw [t_qm_passWord, e2, p_isLet (C := C) (by rw [eM]; exact T) e1 (by omega), zkI_s, if_neg (show ¬ zhr (zlr B) t p from h), if_pos rfl, zru_n h, ← e2, zsI_id]
  · rw [t_qm_passWord, e2, p_isLet (C := C) (by rw [eM]; exact T) e1 (by omega), zkI_s, if_pos (show zhr (zlr B) t p from ⟨h, hP⟩), if_neg z10, e2, nI_1, ih _ (zsI_at _ _ _ _) (by rw [zsI_no _ _ _ (by decide)]; exact e1) (by rw [zsI_ne _ _ _ (by decide)]; exact eM) (by omega), zsI_sI, zru_y h hP]
