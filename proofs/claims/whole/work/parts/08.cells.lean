/-! ===== cells of a pure heap ===== -/
theorem zbeq_ne {a b : Nat} (h : a ≠ b) : Nat.beq a b = false := by
  cases hq : Nat.beq a b
  · rfl
  · exact absurd (Nat.eq_of_beq_eq_true hq) h
theorem zbeq_rf (a : Nat) : Nat.beq a a = true := Nat.beq_refl a
theorem zsI_row (I : zTI) (a k : Nat) (v : Int32) : zsI I a k v a = upd (I a) k v := by
  funext j
  unfold zsI; rw [zbeq_rf]; simp only [cond_true]
  by_cases e : j = k
  · subst e; rw [zbeq_rf]; simp [upd]
  · rw [zbeq_ne e]; simp [upd, e]
theorem zsI_ne (I : zTI) {a b : Nat} (k : Nat) (v : Int32) (h : b ≠ a) : zsI I a k v b = I b := by
  unfold zsI; rw [zbeq_ne h]; rfl
theorem zsJ_row (J : zTJ) (a k : Nat) (v : Int64) : zsJ J a k v a = vp_updL (J a) k v := by
  funext j
  unfold zsJ; rw [zbeq_rf]; simp only [cond_true]
  by_cases e : j = k
  · subst e; rw [zbeq_rf]; simp [vp_updL]
  · rw [zbeq_ne e]; simp [vp_updL, e]
theorem zsJ_ne (J : zTJ) {a b : Nat} (k : Nat) (v : Int64) (h : b ≠ a) : zsJ J a k v b = J b := by
  unfold zsJ; rw [zbeq_ne h]; rfl
theorem zup_ne {f : Nat → Option Nat} {k j : Nat} {v : Option Nat} (h : j ≠ k) : zup f k v j = f j := by unfold zup; rw [zbeq_ne h]; rfl
theorem zrI_row (I : zTI) (a : Nat) (f : Nat → Int32) : zrI I a f a = f := by unfold zrI; rw [zbeq_rf]; rfl
theorem zrI_ne (I : zTI) {a b : Nat} (f : Nat → Int32) (h : b ≠ a) : zrI I a f b = I b := by unfold zrI; rw [zbeq_ne h]; rfl
theorem zrJ_row (J : zTJ) (a : Nat) (f : Nat → Int64) : zrJ J a f a = f := by unfold zrJ; rw [zbeq_rf]; rfl
theorem zrJ_ne (J : zTJ) {a b : Nat} (f : Nat → Int64) (h : b ≠ a) : zrJ J a f b = J b := by unfold zrJ; rw [zbeq_ne h]; rfl
