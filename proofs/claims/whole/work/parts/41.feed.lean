/-! ===== the tape ===== -/
def zTp (t : Nat) (I I' : zTI) : Prop := I 0 1 = nI t ∧ I' 0 1 = nI t ∧ t ≤ 400 ∧ ∀ i, i < t → ∃ v : Int32, I 1 i = v &&& 255 ∧ I' 1 i = v.toInt8.toInt32
/-- all but the tape and its length is kept -/
def zK1 (I I1 : zTI) : Prop := (∀ i, i ≠ 0 → i ≠ 1 → I1 i = I i) ∧ ∀ k, k ≠ 1 → I1 0 k = I 0 k
theorem zK1.rf {I : zTI} : zK1 I I := ⟨fun _ _ _ => rfl, fun _ _ => rfl⟩
theorem zK1.tr {I I1 I2 : zTI} (h : zK1 I I1) (h2 : zK1 I1 I2) : zK1 I I2 := ⟨fun i a b => (h2.1 i a b).trans (h.1 i a b), fun k a => (h2.2 k a).trans (h.2 k a)⟩
theorem zsI_at (I : zTI) (a k : Nat) (v : Int32) : zsI I a k v a k = v := by rw [zsI_row]; simp [upd]
theorem zsI_no (I : zTI) (a : Nat) {k j : Nat} (v : Int32) (h : j ≠ k) : zsI I a k v a j = I a j := by rw [zsI_row]; simp [upd, h]
theorem zK1_w {I : zTI} {t : Nat} {v x : Int32} : zK1 I (zsI (zsI I 1 t v) 0 1 x) := by
  refine ⟨fun i h0 h1 => ?_, fun k hk => ?_⟩
  · rw [zsI_ne _ _ _ h0, zsI_ne _ _ _ h1]
  · rw [zsI_no _ _ _ hk, zsI_ne _ _ _ (by decide)]
theorem zTp_w {I I' : zTI} {t : Nat} (h : zTp t I I') (ht : t < 400) (v : Int32) : zTp (t + 1) (zsI (zsI I 1 t (v &&& 255)) 0 1 (nI t + 1)) (zsI (zsI I' 1 t ((v.toInt8.toInt32).toInt8.toInt32)) 0 1 (nI t + 1)) := by
  obtain ⟨h1, h2, h3, h4⟩ := h
  refine ⟨by rw [zsI_at, nI_1], by rw [zsI_at, nI_1], by omega, fun i hi => ?_⟩
  rw [show zsI (zsI I 1 t (v &&& 255)) 0 1 (nI t + 1) 1 = zsI I 1 t (v &&& 255) 1 from zsI_ne _ _ _ (by decide), show zsI (zsI I' 1 t ((v.toInt8.toInt32).toInt8.toInt32)) 0 1 (nI t + 1) 1 = zsI I' 1 t ((v.toInt8.toInt32).toInt8.toInt32) 1 from zsI_ne _ _ _ (by decide)]
  by_cases e : i = t
  · subst e
    refine ⟨v, by rw [zsI_at], ?_⟩
    rw [zsI_at, Int8.toInt8_toInt32]
  · rw [zsI_no _ _ _ e, zsI_no _ _ _ e]
    exact h4 i (by omega)
theorem z_four {σ : zSg} {J J' : zTJ} {x : Int32} : ∀ (n : Nat) (y : Int32) (t : Nat) (I I' : zTI), n ≤ 4 → y = nI (8 * n) - 8 → zTp t I I' → t + n ≤ 400 → ∃ I1 I1', qb_appendFour_3 x y σ I J = some (none, (zSC σ, I1, J)) ∧ qm_four_3 x y I' J' = some (none, (zSM, I1', J')) ∧ zTp (t + n) I1 I1' ∧ zK1 I I1 ∧ zK1 I' I1'
  | 0, y, t, I, I', _, e, h, _ => by
    subst e
    rw [t_qb_appendFour_3, t_qm_four_3, if_pos (by decide), if_pos (by decide)]
    exact ⟨I, I', rfl, rfl, h, zK1.rf, zK1.rf⟩
  | n + 1, y, t, I, I', hn, e, h, ht => by
    have e1 : y = nI (8 * n) := by
      rw [e, show nI (8 * (n + 1)) = nI (8 * n) + 8 from (nI_add (8 * n) 8).symm, Int32.add_sub_cancel]
    obtain ⟨I1, I1', a1, a2, a3, a4, a5⟩ := z_four (σ := σ) (J := J) (J' := J') (x := x) n (y + (-8)) (t + 1) _ _ (by omega) (by rw [e1]; grind) (zTp_w h (by omega) (x >>> (y &&& 31))) (by omega)
    have hy : ¬ y < 0 := by rw [e1]; exact znn (by omega)
    rw [t_qb_appendFour_3, t_qm_four_3, if_neg hy, if_neg hy, h.1, h.2.1, if_pos (show nI t < (400 : Int32) from nI_lt (b := 400) (by omega) (by decide)), zif_n (by omega) (by omega), zif_n (by omega) (by omega), ztnn (by omega)]
    refine ⟨I1, I1', a1, a2, ?_, zK1_w.tr a4, zK1_w.tr a5⟩
    rw [show t + (n + 1) = t + 1 + n by omega]
    exact a3
theorem z_four4 {σ : zSg} {J J' : zTJ} (x : Int32) {t : Nat} {I I' : zTI} (h : zTp t I I') (ht : t + 4 ≤ 400) : ∃ I1 I1', qb_appendFour x σ I J = some (none, (zSC σ, I1, J)) ∧ qm_four x I' J' = some (none, (zSM, I1', J')) ∧ zTp (t + 4) I1 I1' ∧ zK1 I I1 ∧ zK1 I' I1' := by
  rw [t_qb_appendFour, t_qm_four]
  exact z_four 4 24 t I I' (by omega) (by decide) h ht
theorem o_feed {σ : zSg} {I I' : zTI} {J J' : zTJ} {t : Nat} (h : zTp t I I') (x1 x2 x3 x4 x5 : Int32) : ∃ r I1 I1' t1, qb_feed x1 x2 x3 x4 x5 σ I J = some (some (.int r), (zSC σ, I1, J)) ∧ qm_feed x1 x2 x3 x4 x5 I' J' = some (some (.int r), (zSM, I1', J')) ∧ zTp t1 I1 I1' ∧ zK1 I I1 ∧ zK1 I' I1' := by
  rw [t_qb_feed, t_qm_feed, h.1, h.2.1, show nI t + 20 = nI (t + 20) from nI_add t 20]
  by_cases q : 400 < t + 20
  · have q1 : (400 : Int32) < nI (t + 20) := nI_lt (a := 400) q (by have := h.2.2.1; omega)
    rw [if_pos q1, if_pos q1]
    exact ⟨_, I, I', t, rfl, rfl, h, zK1.rf, zK1.rf⟩
  · have q1 : ¬ (400 : Int32) < nI (t + 20) := fun e => q ((nI_ltI (a := 400) (by decide) (by omega)).mp e)
    rw [if_neg q1, if_neg q1]
    obtain ⟨A1, B1, a1, b1, c1, d1, e1⟩ := z_four4 (σ := σ) (J := J) (J' := J') x1 h (by omega)
    obtain ⟨A2, B2, a2, b2, c2, d2, e2⟩ := z_four4 (σ := σ) (J := J) (J' := J') x2 c1 (by omega)
    obtain ⟨A3, B3, a3, b3, c3, d3, e3⟩ := z_four4 (σ := σ) (J := J) (J' := J') x3 c2 (by omega)
    obtain ⟨A4, B4, a4, b4, c4, d4, e4⟩ := z_four4 (σ := σ) (J := J) (J' := J') x4 c3 (by omega)
    obtain ⟨A5, B5, a5, b5, c5, d5, e5⟩ := z_four4 (σ := σ) (J := J) (J' := J') x5 c4 (by omega)
    rw [a1, zkV_s, a2, zkV_s, a3, zkV_s, a4, zkV_s, a5, zkV_s, b1, zkV_s, b2, zkV_s, b3, zkV_s, b4, zkV_s, b5, zkV_s, c5.1, c5.2.1]
    exact ⟨_, A5, B5, _, rfl, rfl, c5, (((d1.tr d2).tr d3).tr d4).tr d5, (((e1.tr e2).tr e3).tr e4).tr e5⟩
