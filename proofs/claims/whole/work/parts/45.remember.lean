/-! ===== an act is kept by the class ===== -/
theorem zrg_n {a n m : Nat} {x y : Int32} (hx : x = nI a) (hy : y = nI n) (h : a + n ≤ m) (hm : m < 2 ^ 31) : zrg x y m = true := by
  subst hx; subst hy
  unfold zrg
  rw [nI_toInt (by omega), nI_toInt (by omega)]
  simp only [Bool.and_eq_true, decide_eq_true_eq]
  omega
theorem z_j83 (j : Nat) : nI j * 83 = nI (83 * j) := by rw [Nat.mul_comm]; exact (Int32.ofNat_mul j 83).symm
theorem p_remember {σ : zSg} {I : zTI} {J : zTJ} {j u : Nat} (hj : j < 20) (hu : u ≤ 20) (e7 : I 0 7 = nI j) (e8 : I 0 8 = nI u) : ∃ I1, qb_remember σ I J = some (none, (zSC σ, I1, J)) ∧ I1 0 7 = nI (if j = 19 then 0 else j + 1) ∧ I1 0 8 = nI (if u < 20 then u + 1 else u) ∧ (∀ k, k ≠ 7 → k ≠ 8 → I1 0 k = I 0 k) ∧ (∀ i, i ≠ 0 → i ≠ 6 → I1 i = I i) ∧ I1 6 = va_cpy (I 3) (I 6) 0 (83 * j) 83 := by
  have t0 : (0 : Int32).toNatClampNeg = 0 := by decide
  have t83 : (83 : Int32).toNatClampNeg = 83 := by decide
  rw [t_qb_remember, e7, e8, z_j83, zif_t (show zrg 0 83 251 = true from zrg_n (a := 0) (n := 83) rfl rfl (by omega) (by omega)), zif_t (show zrg (nI (83 * j)) 83 1660 = true from zrg_n (a := 83 * j) (n := 83) rfl rfl (by omega) (by omega)), t0, t83, ztnn (show 83 * j < 2 ^ 31 by omega)]
  by_cases q : j = 19
  · subst q
    rw [if_pos (by decide)]
    by_cases q2 : u < 20
    · rw [if_pos (show nI u < (20 : Int32) from nI_lt (b := 20) q2 (by decide)), nI_1]
      refine ⟨_, rfl, ?_, ?_, fun k h7 h8 => ?_, fun i h0 h6 => ?_, ?_⟩
      · rw [zsI_no _ _ _ (by decide), zsI_at, if_pos rfl]; rfl
      · rw [zsI_at, if_pos q2]
      · rw [zsI_no _ _ _ h8, zsI_no _ _ _ h7, zrI_ne _ _ (by decide)]
      · rw [zsI_ne _ _ _ h0, zsI_ne _ _ _ h0, zrI_ne _ _ h6]
      · rw [zsI_ne _ _ _ (by decide), zsI_ne _ _ _ (by decide), zrI_row]
    · rw [if_neg (show ¬ nI u < (20 : Int32) from fun e => q2 ((nI_ltI (b := 20) (by omega) (by decide)).mp e))]
      refine ⟨_, rfl, ?_, ?_, fun k h7 h8 => ?_, fun i h0 h6 => ?_, ?_⟩
      · rw [zsI_at, if_pos rfl]; rfl
      · rw [zsI_no _ _ _ (by decide), zrI_ne _ _ (by decide), e8, if_neg q2]
      · rw [zsI_no _ _ _ h7, zrI_ne _ _ (by decide)]
      · rw [zsI_ne _ _ _ h0, zrI_ne _ _ h6]
      · rw [zsI_ne _ _ _ (by decide), zrI_row]
  · have q1 : ¬ nI j = 19 := fun e => q (znI (b := 19) (by omega) (by decide) e)
    rw [if_neg q1]
    by_cases q2 : u < 20
    · rw [if_pos (show nI u < (20 : Int32) from nI_lt (b := 20) q2 (by decide)), nI_1, nI_1]
      refine ⟨_, rfl, ?_, ?_, fun k h7 h8 => ?_, fun i h0 h6 => ?_, ?_⟩
      · rw [zsI_no _ _ _ (by decide), zsI_at, if_neg q]
      · rw [zsI_at, if_pos q2]
      · rw [zsI_no _ _ _ h8, zsI_no _ _ _ h7, zrI_ne _ _ (by decide)]
      · rw [zsI_ne _ _ _ h0, zsI_ne _ _ _ h0, zrI_ne _ _ h6]
      · rw [zsI_ne _ _ _ (by decide), zsI_ne _ _ _ (by decide), zrI_row]
    · rw [if_neg (show ¬ nI u < (20 : Int32) from fun e => q2 ((nI_ltI (b := 20) (by omega) (by decide)).mp e)), nI_1]
      refine ⟨_, rfl, ?_, ?_, fun k h7 h8 => ?_, fun i h0 h6 => ?_, ?_⟩
      · rw [zsI_at, if_neg q]
      · rw [zsI_no _ _ _ (by decide), zrI_ne _ _ (by decide), e8, if_neg q2]
      · rw [zsI_no _ _ _ h7, zrI_ne _ _ (by decide)]
      · rw [zsI_ne _ _ _ h0, zrI_ne _ _ h6]
      · rw [zsI_ne _ _ _ (by decide), zrI_row]
