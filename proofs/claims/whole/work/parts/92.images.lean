/-! ===== images ===== -/
theorem p_imgL {J : zTJ} {k : Nat} (hk : k < 4) : ∀ (d j : Nat) (I : zTI), j + d = 258 → qm_image_33 (nI k) (nI j) I J = some (some (.int (I 10 5)), (zSM, zrI I 18 (fun i => if 258 * k + j ≤ i ∧ i < 258 * k + 258 then I 10 (i - 258 * k) else I 18 i), J))
  | 0, j, I, hj => by
    rw [t_qm_image_33, if_neg (show ¬ nI j < (258 : Int32) from fun q => by have := (nI_ltI (b := 258) (by omega) (by decide)).mp q; omega)]
    rw [zrI_id]
    funext i
    rw [if_neg (by omega)]
  | d + 1, j, I, hj => by
    have e0 : (258 : Int32) * nI k + nI j = nI (258 * k + j) := by
      rw [show (258 : Int32) * nI k = nI (258 * k) from (Int32.ofNat_mul 258 k).symm, nI_add]
    rw [t_qm_image_33, if_pos (show nI j < (258 : Int32) from nI_lt (b := 258) (by omega) (by decide)), e0, zif_n (by omega) (by omega), zif_n (by omega) (by omega), ztnn (by omega), ztnn (by omega), nI_1, p_imgL hk d (j + 1) _ (by omega), zsI_ne _ _ _ (show 10 ≠ 18 by decide)]
    rw [zrI_eq (I := I) (I1 := zsI I 18 (258 * k + j) (I 10 j)) (g := fun i => if 258 * k + j ≤ i ∧ i < 258 * k + 258 then I 10 (i - 258 * k) else I 18 i) (fun i q => zsI_ne _ _ _ q) ?_]
    funext i
    by_cases q : i = 258 * k + j
    · subst q
      rw [if_neg (by omega), zsI_at, if_pos (by omega), show 258 * k + j - 258 * k = j by omega]
    · rw [zsI_no _ _ _ q]
      by_cases q2 : 258 * k + (j + 1) ≤ i ∧ i < 258 * k + 258
      · rw [if_pos q2, if_pos (by omega)]
      · rw [if_neg q2, if_neg (by omega)]
theorem p_bckL {J : zTJ} {k : Nat} (hk : k < 4) : ∀ (d j : Nat) (I : zTI), j + d = 258 → ∃ v, qm_back_40 (nI k) (nI j) I J = some (some (.int v), (zSM, zrI I 10 (fun i => if j ≤ i ∧ i < 258 then I 18 (258 * k + i) else I 10 i), J)) ∧ v = (if j ≤ 5 then I 18 (258 * k + 5) else I 10 5)
  | 0, j, I, hj => by
    rw [t_qm_back_40, if_neg (show ¬ nI j < (258 : Int32) from fun q => by have := (nI_ltI (b := 258) (by omega) (by decide)).mp q; omega)]
    rw [zrI_id]
    · exact ⟨_, rfl, by rw [if_neg (by omega)]⟩
    · funext i
      rw [if_neg (by omega)]
  | d + 1, j, I, hj => by
    have e0 : (258 : Int32) * nI k + nI j = nI (258 * k + j) := by
      rw [show (258 : Int32) * nI k = nI (258 * k) from (Int32.ofNat_mul 258 k).symm, nI_add]
    obtain ⟨v, h1, h2⟩ := p_bckL (J := J) hk d (j + 1) (zsI I 10 j (I 18 (258 * k + j))) (by omega)
    rw [t_qm_back_40, if_pos (show nI j < (258 : Int32) from nI_lt (b := 258) (by omega) (by decide)), e0, zif_n (by omega) (by omega), zif_n (by omega) (by omega), ztnn (by omega), ztnn (by omega), nI_1, h1, zsI_ne _ _ _ (show 18 ≠ 10 by decide)]
    refine ⟨v, ?_, ?_⟩
    · rw [zrI_eq (I := I) (I1 := zsI I 10 j (I 18 (258 * k + j))) (g := fun i => if j ≤ i ∧ i < 258 then I 18 (258 * k + i) else I 10 i) (fun i q => zsI_ne _ _ _ q) ?_]
      funext i
      by_cases q : i = j
      · subst q
        rw [if_neg (by omega), zsI_at, if_pos (by omega)]
      · rw [zsI_no _ _ _ q]
        by_cases q2 : j + 1 ≤ i ∧ i < 258
        · rw [if_pos q2, if_pos (by omega)]
        · rw [if_neg q2, if_neg (by omega)]
    · rw [h2, zsI_ne _ _ _ (show 18 ≠ 10 by decide)]
      by_cases q : j = 5
      · subst q
        rw [if_neg (by omega), zsI_at, if_pos (by omega)]
      · by_cases q2 : j + 1 ≤ 5
        · rw [if_pos q2, if_pos (by omega)]
        · rw [if_neg q2, if_neg (by omega), zsI_no _ _ _ (fun h => q h.symm)]
/-- the images in both -/
def zIm1 (σ : zSg) (I I' : zTI) (k o : Nat) : Prop := 47 ≤ o ∧ (zSC σ)[o]? = some (9, 0, zls [some (o + 1)]) ∧ (zSC σ)[o + 1]? = some (13, 251, zno) ∧ I' 20 k = 1 ∧ I (o + 1) 83 = I' 19 k ∧ ¬ I' 19 k < 0 ∧ ∃ nb nk ns nr nh, zGood nb nk ns nr nh (I (o + 1)) (fun i => I' 18 (258 * k + i))
def zIm (σ : zSg) (I I' : zTI) : Prop := (∀ k, k < 4 → (σ.2.2.2.1 k = none ∧ I' 20 k = 0) ∨ ∃ o, σ.2.2.2.1 k = some o ∧ zIm1 σ I I' k o) ∧ (∀ k k' o o', k < 4 → k' < 4 → k ≠ k' → σ.2.2.2.1 k = some o → σ.2.2.2.1 k' = some o' → o ≠ o')
/-- how much has been made -/
def zBn (N : Nat) (σ : zSg) : Prop := σ.2.2.2.2.length ≤ 8 * N ∧ zsz σ.2.2.2.2 ≤ 2000 * N
/-- the whole relation -/
def zRe (N : Nat) (hx hm : zH) : Prop := ∃ σ I J I' J' nb nk ns nr nh t j u, hx = (zSC σ, I, J) ∧ hm = (zSM, I', J') ∧ zSta nb nk ns nr nh t j u I I' ∧ zRu σ I I' ∧ zIm σ I I' ∧ zBn N σ
/-- an operation keeps it -/
def zKe (N : Nat) (x y : Option zR) : Prop := ∃ r hx hm, x = some (some (.int r), hx) ∧ y = some (some (.int r), hm) ∧ zRe (N + 1) hx hm
theorem zIm_c {σ : zSg} {a b : Option Nat} {I I1 I' I1' : zTI} (M : zIm σ I I') (h1 : ∀ i, 47 ≤ i → I1 i = I i) (h2 : ∀ i, i = 18 ∨ i = 19 ∨ i = 20 → I1' i = I' i) : zIm (a, b, σ.2.2) I1 I1' := by
  refine ⟨fun k hk => ?_, M.2⟩
  rcases M.1 k hk with ⟨m1, m2⟩ | ⟨o, m0, m1, m2, m3, m4, m5, m6, nb, nk, ns, nr, nh, m7⟩
  · exact Or.inl ⟨m1, by rw [h2 20 (by omega)]; exact m2⟩
  · refine Or.inr ⟨o, m0, m1, ?_, ?_, ?_, ?_, ?_, nb, nk, ns, nr, nh, ?_⟩
    · rw [zSC_j σ a b (by omega)]; exact m2
    · rw [zSC_j σ a b (by omega)]; exact m3
    · rw [h2 20 (by omega)]; exact m4
    · rw [h1 _ (by omega), h2 19 (by omega)]; exact m5
    · rw [h2 19 (by omega)]; exact m6
    · rw [h1 _ (by omega), h2 18 (by omega)]; exact m7
theorem zBn_s {N : Nat} {σ σ' : zSg} (B : zBn N σ) (h : σ'.2.2.2.2 = σ.2.2.2.2) : zBn (N + 1) σ' := by
  unfold zBn
  rw [h]
  exact ⟨by have := B.1; omega, by have := B.2; omega⟩
theorem zKe_R {N nb nk ns nr nh t : Nat} {σ : zSg} {I I' : zTI} {x y : Option zR} (R : zRu σ I I') (M : zIm σ I I') (B : zBn N σ) (D : zDoR nb nk ns nr nh t σ I I' x y) : zKe N x y := by
  obtain ⟨r, a, b, I1, I1', J1, J1', h1, h2, ⟨j, u, h3⟩, h4, h5⟩ := D
  exact ⟨r, _, _, h1, h2, (a, b, σ.2.2), I1, J1, I1', J1', nb, nk, ns, nr, nh, t, j, u, rfl, rfl, h3, zRu_c R h4.1 h4.2 (fun i hi => h5.1 i (by omega)) h5.2, zIm_c M h4.1 (fun i hi => h5.1 i (by omega)), zBn_s B rfl⟩
theorem zKe_D {N nb nk ns nr nh t : Nat} {σ : zSg} {I I' : zTI} {x y : Option zR} (R : zRu σ I I') (M : zIm σ I I') (B : zBn N σ) (D : zDo nb nk ns nr nh t σ I I' x y) : zKe N x y := by
  obtain ⟨r, I1, I1', J1, J1', h1, h2, h3, h4, h5⟩ := D
  exact zKe_R R M B ⟨r, σ.1, σ.2.1, I1, I1', J1, J1', h1, h2, h3, h4, h5⟩
