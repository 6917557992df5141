/-! ===== whole rows copied by the reference ===== -/
theorem zrI_eq {I I1 : zTI} {a : Nat} {f g : Nat → Int32} (h : ∀ i, i ≠ a → I1 i = I i) (e : f = g) : zrI I1 a f = zrI I a g := by
  subst e
  funext i
  by_cases q : i = a
  · subst q
    rw [zrI_row, zrI_row]
  · rw [zrI_ne _ _ q, zrI_ne _ _ q, h i q]
theorem p_undoL {J : zTJ} {u : Nat} (hu : u < 20) : ∀ (d k : Nat) (I : zTI), k + d = 258 → I 0 25 = nI u → qm_undo_21 (nI k) I J = some (some (.int (nI u)), (zSM, zrI I 10 (fun i => if k ≤ i ∧ i < 258 then I 11 (258 * u + i) else I 10 i), J))
  | 0, k, I, hk, e => by
    rw [t_qm_undo_21, if_neg (show ¬ nI k < (258 : Int32) from fun q => by have := (nI_ltI (b := 258) (by omega) (by decide)).mp q; omega), e]
    have e1 : zrI I 10 (fun i => if k ≤ i ∧ i < 258 then I 11 (258 * u + i) else I 10 i) = I := by
      funext i
      by_cases q : i = 10
      · subst q
        rw [zrI_row]
        funext j
        rw [if_neg (by omega)]
      · rw [zrI_ne _ _ q]
    rw [e1]
  | d + 1, k, I, hk, e => by
    have e0 : (258 : Int32) * nI u + nI k = nI (258 * u + k) := by
      rw [show (258 : Int32) * nI u = nI (258 * u) from (Int32.ofNat_mul 258 u).symm, nI_add]
    rw [t_qm_undo_21, if_pos (show nI k < (258 : Int32) from nI_lt (b := 258) (by omega) (by decide)), e, e0, zif_n (by omega) (by omega), zif_n (by omega) (by omega), ztnn (by omega), ztnn (by omega), nI_1, p_undoL hu d (k + 1) _ (by omega) (by rw [zsI_ne _ _ _ (by decide)]; exact e)]
    rw [zrI_eq (I := I) (I1 := zsI I 10 k (I 11 (258 * u + k))) (g := fun i => if k ≤ i ∧ i < 258 then I 11 (258 * u + i) else I 10 i) (fun i q => zsI_ne _ _ _ q) ?_]
    funext i
    rw [zsI_ne (b := 11) _ _ _ (by decide)]
    by_cases q : i = k
    · subst q
      rw [if_neg (by omega), zsI_at, if_pos (by omega)]
    · rw [zsI_no _ _ _ q]
      by_cases q2 : k + 1 ≤ i ∧ i < 258
      · rw [if_pos q2, if_pos (by omega)]
      · rw [if_neg q2, if_neg (by omega)]
