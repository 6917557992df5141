/-! ===== a river: what is read so far ===== -/
def zse (C : Nat → Int32) : Nat → Int32 := fun i => if (11 ≤ i ∧ i < 17) ∨ (71 ≤ i ∧ i < 83) then -1 else C i
theorem zse_n {C : Nat → Int32} {i : Nat} (h : ¬ ((11 ≤ i ∧ i < 17) ∨ (71 ≤ i ∧ i < 83))) : zse C i = C i := if_neg h
theorem zse_y {C : Nat → Int32} {i : Nat} (h : (11 ≤ i ∧ i < 17) ∨ (71 ≤ i ∧ i < 83)) : zse C i = -1 := if_pos h
/-- what is not read yet is 0 -/
def zZr (nr : Nat) (C : Nat → Int32) : Prop := (∀ i, i < 23 → C i = 0) ∧ (∀ i, 35 ≤ i → i < 47 → C i = 0) ∧ (∀ i, 59 ≤ i → i < 83 → C i = 0) ∧ (∀ i, 171 + 12 * nr ≤ i → i < 243 → C i = 0)
def zRv (nb nk ns nr nh : Nat) (C R : Nat → Int32) : Prop := zWR nb nk ns nr nh (zse C) R ∧ (∀ j, j < 258 → zBd nb nk (max ns 1) nr nh j (R j)) ∧ zAb nb nk R ∧ zDp ns R ∧ (nb = 0 → nk = 0 ∧ ns = 0 ∧ nr = 0 ∧ nh = 0) ∧ zZr nr C ∧ (∀ b, b < nb → R (6 + 7 * b + 5) = 0)
theorem zWh_mono {nb ns nr nb' ns' nr' : Nat} {v : Int32} (h : zWh nb ns nr v) (h1 : nb ≤ nb') (h2 : ns ≤ ns') (h3 : nr ≤ nr') : zWh nb' ns' nr' v := by
  rcases h with ⟨s, a, b⟩ | ⟨s, a, b⟩ | ⟨s, a, b⟩ | a
  · exact Or.inl ⟨s, by omega, b⟩
  · exact Or.inr (Or.inl ⟨s, by omega, b⟩)
  · exact Or.inr (Or.inr (Or.inl ⟨s, by omega, b⟩))
  · exact Or.inr (Or.inr (Or.inr a))
