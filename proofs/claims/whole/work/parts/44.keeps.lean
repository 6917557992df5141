/-! ===== an act is kept by the reference ===== -/
theorem zrI_self {I : zTI} {a : Nat} {f : Nat → Int32} (h : ∀ j, f j = I a j) : zrI I a f = I := by
  funext i
  by_cases q : i = a
  · subst q
    rw [zrI_row]
    funext j
    exact h j
  · rw [zrI_ne _ _ q]
theorem p_keep54 {J : zTJ} {u : Nat} (hu : u < 20) : ∀ (d k : Nat) (I : zTI), k + d = 258 → I 0 25 = nI u → qm_keepsAct_54 (nI k) I J = some (none, (zSM, zsI (zrI I 11 (fun i => if 258 * u + k ≤ i ∧ i < 258 * u + 258 then I 10 (i - 258 * u) else I 11 i)) 0 25 (nI (u + 1)), J))
  | 0, k, I, hk, e => by
    rw [t_qm_keepsAct_54, if_neg (show ¬ nI k < (258 : Int32) from fun q => by have := (nI_ltI (b := 258) (by omega) (by decide)).mp q; omega), e, nI_1, zrI_self (fun j => by rw [if_neg (by omega)])]
  | d + 1, k, I, hk, e => by
    have e0 : (258 : Int32) * nI u + nI k = nI (258 * u + k) := by
      rw [show (258 : Int32) * nI u = nI (258 * u) from (Int32.ofNat_mul 258 u).symm, nI_add]
    rw [t_qm_keepsAct_54, if_pos (show nI k < (258 : Int32) from nI_lt (b := 258) (by omega) (by decide)), e, e0, zif_n (by omega) (by omega), zif_n (by omega) (by omega), ztnn (by omega), ztnn (by omega), nI_1, p_keep54 hu d (k + 1) _ (by omega) (by rw [zsI_ne _ _ _ (by decide)]; exact e)]
    rw [zrI_eq (I := I) (I1 := zsI I 11 (258 * u + k) (I 10 k)) (g := fun i => if 258 * u + k ≤ i ∧ i < 258 * u + 258 then I 10 (i - 258 * u) else I 11 i) (fun i q => zsI_ne _ _ _ q) ?_]
    funext i
    rw [zsI_ne (b := 10) _ _ _ (by decide)]
    by_cases q : i = 258 * u + k
    · subst q
      rw [if_neg (by omega), zsI_at, if_pos (by omega), show 258 * u + k - 258 * u = k by omega]
    · rw [zsI_no _ _ _ q]
      by_cases q2 : 258 * u + (k + 1) ≤ i ∧ i < 258 * u + 258
      · rw [if_pos q2, if_pos (by omega)]
      · rw [if_neg q2, if_neg (by omega)]
theorem p_keep13 {J : zTJ} (c : Nat) (hc : c = 258) : ∀ (d j : Nat) (I : zTI), j + d = 4902 → qm_keepsAct_13 (nI (j + c)) I J = qm_keepsAct_54 0 (zsI (zrI I 11 (fun i => if j ≤ i ∧ i < 4902 then I 11 (i + c) else I 11 i)) 0 25 (I 0 25 - 1)) J
  | 0, j, I, hk => by
    rw [t_qm_keepsAct_13, if_neg (show ¬ nI (j + c) < (5160 : Int32) from fun q => by have := (nI_ltI (b := 5160) (by omega) (by decide)).mp q; omega), zrI_self (fun j => by rw [if_neg (by omega)])]
  | d + 1, j, I, hk => by
    have e0 : nI (j + c) - 258 = nI j := by
      rw [← nI_add, hc]
      exact Int32.add_sub_cancel _ _
    have e2 : nI (j + c) + 1 = nI (j + 1 + c) := by rw [nI_1, show j + c + 1 = j + 1 + c by omega]
    rw [t_qm_keepsAct_13, if_pos (show nI (j + c) < (5160 : Int32) from nI_lt (b := 5160) (by omega) (by decide)), e0, zif_n (by omega) (by omega), zif_n (by omega) (by omega), ztnn (by omega), ztnn (by omega), e2, p_keep13 c hc d (j + 1) _ (by omega)]
    rw [zsI_ne (a := 11) (b := 0) _ _ _ (by decide), zrI_eq (I := I) (I1 := zsI I 11 j (I 11 (j + c))) (g := fun i => if j ≤ i ∧ i < 4902 then I 11 (i + c) else I 11 i) (fun i q => zsI_ne _ _ _ q) ?_]
    funext i
    by_cases q : i = j
    · subst q
      rw [if_neg (by omega), zsI_at, if_pos (by omega)]
    · rw [zsI_no _ _ _ q]
      by_cases q2 : j + 1 ≤ i ∧ i < 4902
      · rw [if_pos q2, if_pos (by omega), zsI_no _ _ _ (by omega)]
      · rw [if_neg q2, if_neg (by omega)]
