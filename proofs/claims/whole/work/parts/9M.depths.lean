/-! ===== a river: the depths of a stop ===== -/
theorem p_fill {σ : zSg} {I : zTI} {J : zTJ} {a b : Nat} {v : Int32} (hab : a ≤ b) (hb : b ≤ 251) : qa_fill_fda19 10 (nI a) (nI b) v (zSC σ) I J = some (none, (zSC σ, zrI I 10 (fun i => if a ≤ i ∧ i < b then v else I 10 i), J)) := by
  rw [t_qa_fill_fda19, zal_s (k := 13) (n := 251) (rf := zno) rfl rfl, t_qa_rangeCheck_23922, if_neg (show ¬ nI b < nI a from fun q => by have := (nI_ltI (by omega) (by omega)).mp q; omega), if_neg (znn (by omega)), if_neg (show ¬ Int32.ofNat 251 < nI b from fun q => by have := (nI_ltI (a := 251) (by omega) (by omega)).mp q; omega), zkV_s, p_fillL hb (b - a) a I (by omega)]
/-- the class is about to read depth m -/
noncomputable def zFd (σ : zSg) (row m : Nat) (I : zTI) (J : zTJ) : Option zR := zkI (qn_readNumber 7 1 999 σ I J) (zSC σ) (fun r3 I1 J2 => (if r3 = 0 then (some (some (.int 0), ((zSC σ), I1, J2))) else (zkV (qa_fill_fda19 10 (nI (row + m)) (nI (row + 4)) (I1 7 3) (zSC σ) I1 J2) (zSC σ) (fun I4 J5 => (qr_readStop_54 (nI row) (nI (m + 1)) σ I4 J5)))))
def zSv (row s m : Nat) (C R C0 R0 : Nat → Int32) : Prop := (0 < m → ∀ j, j < 4 → C (row + j) = R (s + 1 + min j (m - 1))) ∧ (∀ i, i < m → ∃ d, 1 ≤ d ∧ d ≤ 999 ∧ R (s + 1 + i) = nI d) ∧ (∀ i, ¬ (row ≤ i ∧ i < row + 4) → C i = C0 i) ∧ (∀ i, ¬ (s ≤ i ∧ i < s + 5) → R i = R0 i)
/-- one depth more -/
theorem zSv_n {row s m v : Nat} {C R C0 R0 C1 R1 : Nat → Int32} (V : zSv row s m C R C0 R0) (hm : m ≤ 3) (hv : 1 ≤ v ∧ v ≤ 999) (hC : ∀ i, C1 i = if row + m ≤ i ∧ i < row + 4 then nI v else C i) (hR : ∀ i, i ≠ s → R1 i = if i = s + 1 + m then nI v else R i) : zSv row s (m + 1) C1 R1 C0 R0 := by
  obtain ⟨v1, v2, v3, v4⟩ := V
  refine ⟨fun _ j hj => ?_, fun i hi => ?_, fun i hi => ?_, fun i hi => ?_⟩
  · rw [hC, hR _ (by omega), show m + 1 - 1 = m by omega]
    by_cases q : j < m
    · rw [if_neg (by omega), if_neg (by omega), v1 (by omega) j hj, show min j (m - 1) = min j m by omega]
    · rw [if_pos (by omega), if_pos (by omega)]
  · rw [hR _ (by omega)]
    by_cases q : i = m
    · rw [if_pos (by omega)]
      exact ⟨v, hv.1, hv.2, rfl⟩
    · rw [if_neg (by omega)]
      exact v2 i (by omega)
  · rw [hC, if_neg (by omega), v3 i hi]
  · rw [hR i (by omega), if_neg (by omega), v4 i hi]
