/-! ===== rule ===== -/
section zru
variable (K : zKt) (σ : zSg) (I : zTI) (J : zTJ)
theorem zru1 : zxk zG (zS zG) 38 (zG 119) K 4 0 [some (.ref 0), none] [] (zSC σ, I, J) = (if I 0 5 < 6 then K 11 [some (.ref 0), none] [] (zSC σ, I, J) else K 9 [some (.ref 0), none] [] (zSC σ, I, J)) := rfl
theorem zru2 (h : zH) : zxk zG (zS zG) 38 (zG 119) K 2 9 [some (.ref 0), none] [] h = some (some (.int (-1)), h) := rfl
theorem zru3 : zxk zG (zS zG) 38 (zG 119) K 7 11 [some (.ref 0), none] [] (zSC σ, I, J) = zkI (qu_parse (I 0 1) σ I J) (zSC σ) (fun r I1 J1 => K 26 [some (.ref 0), none] [.int r] (zSC σ, I1, J1)) := rfl
theorem zru4 (r : Int32) : zxk zG (zS zG) 38 (zG 119) K 6 26 [some (.ref 0), none] [.int r] (zSC σ, I, J) = (if r = 0 then K 41 [some (.ref 0), some (.int r)] [] (zSC σ, zsI I 0 1 0, J) else K 36 [some (.ref 0), some (.int r)] [] (zSC σ, zsI I 0 1 0, J)) := rfl
theorem zru5 (r : Int32) (h : zH) : zxk zG (zS zG) 38 (zG 119) K 4 36 [some (.ref 0), some (.int r)] [] h = some (some (.int (-2 - r)), h) := rfl
theorem zru6 (r : Int32) : zxk zG (zS zG) 38 (zG 119) K 7 41 [some (.ref 0), some (.int r)] [] (zSC σ, I, J) = zcA (zS zG 6 51 0 [some (.ref 11)] [] (zSC σ, I, J)) (fun o h => K 56 [some (.ref 0), some (.int r)] [.ref o, .int (I 0 5), .ref 5] h) := rfl
theorem zru7 (r x : Int32) (o : Nat) (sh : List zE) : zxk zG (zS zG) 38 (zG 119) K 1 56 [some (.ref 0), some (.int r)] [.ref o, .int x, .ref 5] (sh, I, J) = zar (sh, I, J) 5 16 (fun n _ => zob (sh, I, J) o [7] (fun _ => zif (zin x n) (K 57 [some (.ref 0), some (.int r)] [] (zsR sh 5 x.toNatClampNeg (some o), I, J)))) := rfl
theorem zru8 (r : Int32) : zxk zG (zS zG) 38 (zG 119) K 11 57 [some (.ref 0), some (.int r)] [] (zSC σ, I, J) = some (some (.int ((zsI I 0 5 (I 0 5 + 1)) 0 5 - 1)), (zSC σ, zsI I 0 5 (I 0 5 + 1), J)) := rfl
end zru
/-- a rule more -/
def zAr (σ : zSg) (k n nc : Nat) : zSg := (σ.1, σ.2.1, zup σ.2.2.1 k (some (zSC σ).length), σ.2.2.2.1, σ.2.2.2.2 ++ [(7, 0, zrr (zSC σ).length), (13, n, zno), (13, 5 * nc, zno), (14, 64, zno)])
theorem zAr_sh (σ : zSg) (k n nc : Nat) : zsR (zSC σ ++ [(7, 0, zrr (zSC σ).length), (13, n, zno), (13, 5 * nc, zno), (14, 64, zno)]) 5 k (some (zSC σ).length) = zSC (zAr σ k n nc) := rfl
theorem zAr_hi (σ : zSg) (k n nc j : Nat) : (zSC (zAr σ k n nc))[(zSC σ).length + j]? = [((7 : Nat), (0 : Nat), zrr (zSC σ).length), (13, n, zno), (13, 5 * nc, zno), (14, 64, zno)][j]? := by
  have h := zSC_hi (zAr σ k n nc) (σ.2.2.2.2.length + j)
  rw [← Nat.add_assoc, ← zSC_len] at h
  rw [h]
  show (σ.2.2.2.2 ++ _)[_]? = _
  rw [List.getElem?_append_right (by omega), show σ.2.2.2.2.length + j - σ.2.2.2.2.length = j by omega]
theorem zAr_k (σ : zSg) (k n nc : Nat) {i : Nat} (h : i < (zSC σ).length) (h5 : i ≠ 5) : (zSC (zAr σ k n nc))[i]? = (zSC σ)[i]? := by
  have e : zSC (zAr σ k n nc) = (zSC σ ++ [(7, 0, zrr (zSC σ).length), (13, n, zno), (13, 5 * nc, zno), (14, 64, zno)]).set 5 (16, 6, zup σ.2.2.1 k (some (zSC σ).length)) := rfl
  rw [e, List.getElem?_set_ne (fun h' => h5 h'.symm), List.getElem?_append_left h]
theorem p_rule6 {σ : zSg} {I : zTI} {J : zTJ} (h : ¬ I 0 5 < 6) : zS zG 38 119 0 [some (.ref 0), none] [] (zSC σ, I, J) = some (some (.int (-1)), (zSC σ, I, J)) := by
  rw [zS_eq]
  show zx zG (zS zG) 38 119 (zG 119) 400 0 [some (.ref 0), none] [] (zSC σ, I, J) = _
  rw [zx_N 400 4 396 rfl rfl, zru1, if_neg h, zx_N 396 2 394 rfl rfl, zru2]
theorem p_rule0 {σ : zSg} {I I1 : zTI} {J J1 : zTJ} {r : Int32} (h : I 0 5 < 6) (hp : qu_parse (I 0 1) σ I J = some (some (.int r), (zSC σ, I1, J1))) (hr : r ≠ 0) : zS zG 38 119 0 [some (.ref 0), none] [] (zSC σ, I, J) = some (some (.int (-2 - r)), (zSC σ, zsI I1 0 1 0, J1)) := by
  rw [zS_eq]
  show zx zG (zS zG) 38 119 (zG 119) 400 0 [some (.ref 0), none] [] (zSC σ, I, J) = _
  rw [zx_N 400 4 396 rfl rfl, zru1, if_pos h, zx_N 396 7 389 rfl rfl, zru3, hp, zkI_s, zx_N 389 6 383 rfl rfl, zru4, if_neg hr, zx_N 383 4 379 rfl rfl, zru5]
theorem p_rule1 {σ : zSg} {I I1 : zTI} {J J1 : zTJ} {nu n nc : Nat} (h : I 0 5 < 6) (hp : qu_parse (I 0 1) σ I J = some (some (.int 0), (zSC σ, I1, J1))) (e5 : I1 0 5 = nI nu) (hnu : nu < 6) (e6 : I1 11 6 = nI n) (e8 : I1 11 8 = nI nc) (hn : n ≤ 400) (hc : nc ≤ 12) : ∃ I2 J2, zS zG 38 119 0 [some (.ref 0), none] [] (zSC σ, I, J) = some (some (.int (nI nu)), (zSC (zAr σ nu n nc), I2, J2)) ∧ (∀ i, i ≠ 0 → i < (zSC σ).length → I2 i = I1 i) ∧ (∀ k, k ≠ 1 → k ≠ 5 → I2 0 k = I1 0 k) ∧ I2 0 1 = 0 ∧ I2 0 5 = nI (nu + 1) ∧ (∀ j, j < n → I2 ((zSC σ).length + 1) j = I1 13 j) ∧ (∀ j, j < 5 * nc → I2 ((zSC σ).length + 2) j = I1 14 j) := by
  have hl := zSC_len σ
  rw [zS_eq]
  show ∃ I2 J2, zx zG (zS zG) 38 119 (zG 119) 400 0 [some (.ref 0), none] [] (zSC σ, I, J) = _ ∧ _
  obtain ⟨I5, J5, m1, m2, m3, m4⟩ := p_made σ (zsI I1 0 1 0) J1 (n := n) (nc := nc) (by rw [zsI_ne _ _ _ (by decide)]; exact e6) (by rw [zsI_ne _ _ _ (by decide)]; exact e8) hn hc
  have g5 : zsI I1 0 1 0 0 5 = nI nu := by rw [zsI_no _ _ _ (by decide)]; exact e5
  have f0 : I5 0 = zsI I1 0 1 0 0 := m2 0 (by omega)
  have f5 : I5 0 5 = nI nu := by rw [f0]; exact g5
  rw [zx_N 400 4 396 rfl rfl, zru1, if_pos h, zx_N 396 7 389 rfl rfl, zru3, hp, zkI_s, zx_N 389 6 383 rfl rfl, zru4, if_pos rfl, zx_N 383 7 376 rfl rfl, zru6, m1, zcA_s, g5, zx_N 376 1 375 rfl rfl, zru7, zar_s (k := 16) (n := 6) (rf := σ.2.2.1) rfl, zob_s zat_app, zif_n hnu (by omega), ztnn (by omega), zAr_sh, zx_N 375 11 364 rfl rfl, zru8, f5, zsI_at, nI_1, show nI (nu + 1) - 1 = nI nu from z_sub1 (k := 1) (by omega)]
  refine ⟨_, _, rfl, fun i h0 hi => ?_, fun k h1 h5 => ?_, ?_, zsI_at _ _ _ _, fun j hj => ?_, fun j hj => ?_⟩
  · rw [zsI_ne _ _ _ h0, m2 i hi, zsI_ne _ _ _ h0]
  · rw [zsI_no _ _ _ h5, f0, zsI_no _ _ _ h1]
  · rw [zsI_no _ _ _ (by decide), f0, zsI_at]
  · rw [zsI_ne _ _ _ (by omega), m3 j hj, zsI_ne _ _ _ (by decide)]
  · rw [zsI_ne _ _ _ (by omega), m4 j hj, zsI_ne _ _ _ (by decide)]
/-- one rule, in both -/
def zRu1 (σ : zSg) (I I' : zTI) (t : Nat) : Prop := ∃ (q cq lq sq : Nat) (L : List Nat) (nc : Nat) (kd shf ss ts te : Nat → Nat), σ.2.2.1 t = some q ∧ 47 ≤ q ∧ 47 ≤ cq ∧ 47 ≤ lq ∧ 47 ≤ sq ∧ (∀ k o, k < 4 → σ.2.2.2.1 k = some o → cq ≠ o + 1 ∧ lq ≠ o + 1) ∧ zRl t q cq lq sq (zSC σ) I I' L nc kd shf ss ts te
theorem zRu_i {σ : zSg} {I I' : zTI} : zRu σ I I' ↔ ∃ nu, nu ≤ 6 ∧ I 0 5 = nI nu ∧ I' 0 2 = nI nu ∧ ∀ t, t < nu → zRu1 σ I I' t := Iff.rfl
/-- a rule of before -/
theorem zRu1_c {σ σ' : zSg} {I I' I1 I1' : zTI} {t nu : Nat} (R : zRu1 σ I I' t) (ht : t < nu) (hs : σ'.2.2.1 t = σ.2.2.1 t) (hi : σ'.2.2.2.1 = σ.2.2.2.1) (hk : ∀ i, i < (zSC σ).length → i ≠ 5 → (zSC σ')[i]? = (zSC σ)[i]?) (h1 : ∀ i, 47 ≤ i → i < (zSC σ).length → I1 i = I i) (g2 : ∀ j, j < 400 * nu → I1' 2 j = I' 2 j) (g4 : ∀ j, j < 60 * nu → I1' 4 j = I' 4 j) (g5 : ∀ j, j < nu → I1' 5 j = I' 5 j) : zRu1 σ' I1 I1' t := by
  obtain ⟨q, cq, lq, sq, L, nc, kd, shf, ss, ts, te, y1, y2, y3, y4, y5, y7, y6⟩ := R
  obtain ⟨⟨k0, rf, r1, r2, r3, r4, hq, hr0, hr1, hr2, hcq, hlq, hs', h18, hne⟩, b1, b2, b3, b4, b5, b6, b7, b8, b9, b10⟩ := y6
  have lc := zlt_at hcq
  have ll := zlt_at hlq
  have l18 := zlt_at h18
  refine ⟨q, cq, lq, sq, L, nc, kd, shf, ss, ts, te, by rw [hs]; exact y1, y2, y3, y4, y5, by rw [hi]; exact y7, ⟨k0, rf, r1, r2, r3, r4, ?_, hr0, hr1, hr2, ?_, ?_, ?_, ?_, hne⟩, b1, b2, ?_, fun j hj => ?_, b5, ?_, ?_, fun c hc => ?_, b9, b10⟩
  · rw [hk q (zlt_at hq) (by omega)]; exact hq
  · rw [hk cq lc (by omega)]; exact hcq
  · rw [hk lq ll (by omega)]; exact hlq
  · rw [hk sq (zlt_at hs') (by omega)]; exact hs'
  · rw [hk 18 l18 (by omega)]; exact h18
  · rw [h1 cq y3 lc]; exact b3
  · rw [g2 _ (by omega)]; exact b4 j hj
  · rw [h1 lq y4 ll]; exact b6
  · rw [g5 t ht]; exact b7
  · rw [g4 _ (by omega), g4 _ (by omega), g4 _ (by omega), g4 _ (by omega), g4 _ (by omega)]
    exact b8 c hc
