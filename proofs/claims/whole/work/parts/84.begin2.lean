/-! ===== beginning a journey, copying a river ===== -/
theorem zsC_beg (σ : zSg) (w q : Nat) : zsR (zsR (zSC σ) 15 2 (some w)) 15 3 (some q) = zSC (some w, some q, σ.2.2) := by
  have h : zup (zup (zls [some 16, some 18, σ.1, σ.2.1, none, none, none, none, none, none]) 2 (some w)) 3 (some q) = zls [some 16, some 18, some w, some q, none, none, none, none, none, none] := by
    funext k
    match k with
    | 0 => rfl
    | 1 => rfl
    | 2 => rfl
    | 3 => rfl
    | k + 4 => rfl
  have e : zsR (zsR (zSC σ) 15 2 (some w)) 15 3 (some q) = (zSC (some w, some q, σ.2.2)).set 15 (1, 0, zup (zup (zls [some 16, some 18, σ.1, σ.2.1, none, none, none, none, none, none]) 2 (some w)) 3 (some q)) := rfl
  rw [e, h]
  rfl
theorem t_begin2 (σ : zSg) (q : Nat) (x : Int32) (I : zTI) (J : zTJ) : zS zG 0 5 0 [some (.ref 15), some (.ref 2), some (.ref q), some (.int x)] [] (zSC σ, I, J) = some (none, (zSC (some 2, some q, σ.2.2), zsI (zsI (zsI (zsI I 15 4 x) 15 7 0) 15 8 0) 15 9 0, J)) := by
  have e : zS zG 0 5 0 [some (.ref 15), some (.ref 2), some (.ref q), some (.int x)] [] (zSC σ, I, J) = some (none, (zsR (zsR (zSC σ) 15 2 (some 2)) 15 3 (some q), zsI (zsI (zsI (zsI I 15 4 x) 15 7 0) 15 8 0) 15 9 0, J)) := (zS_eq zG 0 5 0 _ _ _).trans rfl
  rw [e, zsC_beg]
theorem t_begin16 (σ : zSg) (q : Nat) (x : Int32) (I : zTI) (J : zTJ) : zS zG 0 5 0 [some (.ref 15), some (.ref 16), some (.ref q), some (.int x)] [] (zSC σ, I, J) = some (none, (zSC (some 16, some q, σ.2.2), zsI (zsI (zsI (zsI I 15 4 x) 15 7 0) 15 8 0) 15 9 0, J)) := by
  have e : zS zG 0 5 0 [some (.ref 15), some (.ref 16), some (.ref q), some (.int x)] [] (zSC σ, I, J) = some (none, (zsR (zsR (zSC σ) 15 2 (some 16)) 15 3 (some q), zsI (zsI (zsI (zsI I 15 4 x) 15 7 0) 15 8 0) 15 9 0, J)) := (zS_eq zG 0 5 0 _ _ _).trans rfl
  rw [e, zsC_beg]
theorem zrg251 : zrg 0 251 251 = true := by decide
theorem t251 : (251 : Int32).toNatClampNeg = 251 := by decide
theorem t000 : (0 : Int32).toNatClampNeg = 0 := by decide
theorem p_copy16 (σ : zSg) (I : zTI) (J : zTJ) : zS zG 1 76 0 [some (.ref 16), some (.ref 2)] [] (zSC σ, I, J) = some (none, (zSC σ, zrI I 17 (va_cpy (I 3) (I 17) 0 0 251), J)) := by
  have e : zS zG 1 76 0 [some (.ref 16), some (.ref 2)] [] (zSC σ, I, J) = (zif (zrg 0 251 251) (zif (zrg 0 251 251) (some (none, (zSC σ, zrI I 17 (va_cpy (I 3) (I 17) (0 : Int32).toNatClampNeg (0 : Int32).toNatClampNeg (251 : Int32).toNatClampNeg), J))))) := (zS_eq zG 1 76 0 _ _ _).trans rfl
  rw [e, zif_t zrg251, zif_t zrg251, t000, t251]
theorem p_copy9 (σ : zSg) (I : zTI) (J : zTJ) : zS zG 1 76 0 [some (.ref 2), some (.ref 9)] [] (zSC σ, I, J) = some (none, (zSC σ, zrI I 3 (va_cpy (I 10) (I 3) 0 0 251), J)) := by
  have e : zS zG 1 76 0 [some (.ref 2), some (.ref 9)] [] (zSC σ, I, J) = (zif (zrg 0 251 251) (zif (zrg 0 251 251) (some (none, (zSC σ, zrI I 3 (va_cpy (I 10) (I 3) (0 : Int32).toNatClampNeg (0 : Int32).toNatClampNeg (251 : Int32).toNatClampNeg), J))))) := (zS_eq zG 1 76 0 _ _ _).trans rfl
  rw [e, zif_t zrg251, zif_t zrg251, t000, t251]
/-- shapes but the journey's are the same -/
theorem zSC_j (σ : zSg) (a b : Option Nat) {j : Nat} (h : j ≠ 15) : (zSC (a, b, σ.2.2))[j]? = (zSC σ)[j]? := by
  have e : zSC (a, b, σ.2.2) = (zSC σ).set 15 (1, 0, zls [some 16, some 18, a, b, none, none, none, none, none, none]) := rfl
  rw [e, List.getElem?_set_ne (fun h' => h h'.symm)]
theorem zRS_c {σ : zSg} {a b : Option Nat} {q cq lq sq n m : Nat} (R : zRS (zSC σ) q cq lq sq n m) (h1 : q ≠ 15) (h2 : cq ≠ 15) (h3 : lq ≠ 15) (h4 : sq ≠ 15) : zRS (zSC (a, b, σ.2.2)) q cq lq sq n m := by
  obtain ⟨k0, rf, r1, r2, r3, r4, hq, hr0, hr1, hr2, hcq, hl, hs, h18, hne⟩ := R
  exact ⟨k0, rf, r1, r2, r3, r4, by rw [zSC_j σ a b h1]; exact hq, hr0, hr1, hr2, by rw [zSC_j σ a b h2]; exact hcq, by rw [zSC_j σ a b h3]; exact hl, by rw [zSC_j σ a b h4]; exact hs, by rw [zSC_j σ a b (by decide)]; exact h18, hne⟩
/-! the rules -/
def zRu (σ : zSg) (I I' : zTI) : Prop := ∃ nu, nu ≤ 6 ∧ I 0 5 = nI nu ∧ I' 0 2 = nI nu ∧ ∀ t, t < nu → ∃ (q cq lq sq : Nat) (L : List Nat) (nc : Nat) (kd shf ss ts te : Nat → Nat), σ.2.2.1 t = some q ∧ 47 ≤ q ∧ 47 ≤ cq ∧ 47 ≤ lq ∧ 47 ≤ sq ∧ (∀ k o, k < 4 → σ.2.2.2.1 k = some o → cq ≠ o + 1 ∧ lq ≠ o + 1) ∧ zRl t q cq lq sq (zSC σ) I I' L nc kd shf ss ts te
theorem zRu_c {σ : zSg} {a b : Option Nat} {I I1 I' I1' : zTI} (R : zRu σ I I') (h1 : ∀ i, 47 ≤ i → I1 i = I i) (h0 : I1 0 5 = I 0 5) (h2 : ∀ i, i = 2 ∨ i = 4 ∨ i = 5 → I1' i = I' i) (h3 : I1' 0 2 = I' 0 2) : zRu (a, b, σ.2.2) I1 I1' := by
  obtain ⟨nu, g1, g2, g3, g4⟩ := R
  refine ⟨nu, g1, by rw [h0]; exact g2, by rw [h3]; exact g3, fun t ht => ?_⟩
  obtain ⟨q, cq, lq, sq, L, nc, kd, shf, ss, ts, te, e1, e2, e3, e4, e5, e7, e6⟩ := g4 t ht
  obtain ⟨r1, r2⟩ := zRl_c e6 (h1 cq e3) (h1 lq e4) (h2 2 (by omega)) (h2 4 (by omega)) (h2 5 (by omega))
  exact ⟨q, cq, lq, sq, L, nc, kd, shf, ss, ts, te, e1, e2, e3, e4, e5, e7, zRS_c r1 (by omega) (by omega) (by omega) (by omega), r2⟩
