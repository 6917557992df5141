/-! ===== a river: the clause of a stop ===== -/
theorem p_fillL {σ : zSg} {J : zTJ} {b : Nat} {v : Int32} (hb : b ≤ 251) : ∀ (d a : Nat) (I : zTI), a + d = b → qa_fill_fda19_10 10 (nI b) v (nI a) (zSC σ) I J = some (none, (zSC σ, zrI I 10 (fun i => if a ≤ i ∧ i < b then v else I 10 i), J))
  | 0, a, I, h => by
    rw [t_qa_fill_fda19_10, if_neg (show ¬ nI a < nI b from fun q => by have := (nI_ltI (by omega) (by omega)).mp q; omega), zrI_id]
    funext i
    rw [if_neg (by omega)]
  | d + 1, a, I, h => by
    rw [t_qa_fill_fda19_10, if_pos (nI_lt (by omega) (by omega)), zar_s (k := 13) (n := 251) (rf := zno) rfl, zif_n (by omega) (by omega), ztnn (by omega), nI_1, p_fillL hb d (a + 1) _ (by omega)]
    rw [zrI_eq (I := I) (I1 := zsI I 10 a v) (g := fun i => if a ≤ i ∧ i < b then v else I 10 i) (fun i q => zsI_ne _ _ _ q) ?_]
    funext i
    by_cases q : i = a
    · subst q
      rw [if_neg (by omega), zsI_at, if_pos (by omega)]
    · rw [zsI_no _ _ _ q]
      by_cases q2 : a + 1 ≤ i ∧ i < b
      · rw [if_pos q2, if_pos (by omega)]
      · rw [if_neg q2, if_neg (by omega)]
theorem p_dNext {J : zTJ} {t p : Nat} {B : Nat → Nat} {C : Nat → Int32} {I : zTI} (T : zTxt t B C (I 1)) (e1 : I 0 1 = nI t) (e9 : I 0 9 = nI p) (hp : p ≤ t) : qm_isDigitNext I J = some (some (.int (if zhr (zdi B) t (zru (zbl B) t p) then 1 else 0)), (zSM, zsI I 0 9 (nI (zru (zbl B) t p)), J)) := by
  rw [t_qm_isDigitNext, p_see T p I e9 e1 rfl hp, zkI_s]
  unfold zby
  generalize zru (zbl B) t p = q
  by_cases h : q < t
  · have hb := (T.2 q h).1
    rw [if_pos h]
    by_cases g : zdi B q = true
    · have g' := of_decide_eq_true g
      rw [if_pos (show zhr (zdi B) t q from ⟨h, g⟩), if_neg (show ¬ nI (B q) < 48 from fun h' => by have := (nI_ltI (b := 48) (by omega) (by omega)).mp h'; omega), if_neg (show ¬ (57 : Int32) < nI (B q) from fun h' => by have := (nI_ltI (a := 57) (by omega) (by omega)).mp h'; omega)]
    · have g' : ¬ (48 ≤ B q ∧ B q ≤ 57) := fun h => g (decide_eq_true h)
      rw [if_neg (show ¬ zhr (zdi B) t q from fun h => g h.2)]
      by_cases k : B q < 48
      · rw [if_pos (show nI (B q) < 48 from nI_lt (b := 48) k (by omega))]
      · rw [if_neg (show ¬ nI (B q) < 48 from fun h' => k ((nI_ltI (b := 48) (by omega) (by omega)).mp h')), if_pos (show (57 : Int32) < nI (B q) from nI_lt (a := 57) (by omega) (by omega))]
  · rw [if_neg h, if_pos (show (-1 : Int32) < 48 by decide), if_neg (show ¬ zhr (zdi B) t q from fun h' => h h'.1)]
