/-! ===== a rule: what a clause leaves ===== -/
theorem zsg_app {L M : List Nat} {i e : Nat} (h : e ≤ L.length) : zsg_ (L ++ M) i e = zsg_ L i e := by
  unfold zsg_
  by_cases q : i ≤ e
  · rw [List.drop_append_of_le_length (by omega), List.take_append_of_le_length (by rw [List.length_drop]; omega)]
  · rw [show e - i = 0 by omega]
    rfl
theorem zsg_new {L M : List Nat} : zsg_ (L ++ M) L.length (L ++ M).length = M := by
  unfold zsg_
  rw [List.drop_left, List.length_append, show L.length + M.length - L.length = M.length by omega, List.take_length]
def zC1 (tt : Nat) (L : List Nat) (A A' : Nat → Int32) (c kd shf ss ts te : Nat) : Prop := (A (5 * c + 0) = nI kd ∧ A (5 * c + 1) = nI shf ∧ A (5 * c + 2) = nI ss ∧ A (5 * c + 3) = nI ts ∧ A (5 * c + 4) = nI te) ∧ (A' (60 * tt + 5 * c) = nI kd ∧ (kd = 0 → A' (60 * tt + 5 * c + 1) = nI ss ∧ A' (60 * tt + 5 * c + 2) = nI ts) ∧ (kd = 2 → A' (60 * tt + 5 * c + 1) = nI shf) ∧ A' (60 * tt + 5 * c + 3) = (if ts = te then -1 else nI ts) ∧ A' (60 * tt + 5 * c + 4) = nI te) ∧ (kd ≤ 2 ∧ shf ≤ 7 ∧ (kd ≠ 2 → shf = 0) ∧ ts ≤ te ∧ te ≤ L.length ∧ (ts ≠ te → zty (zsg_ L ts te) [] = some [true]) ∧ (kd = 0 → ss ≤ ts ∧ zty (zsg_ L ss ts) [] = some [false]))
def zCx (tt nc : Nat) (L : List Nat) (A A' : Nat → Int32) : Prop := ∀ c, c < nc → ∃ kd shf ss ts te, zC1 tt L A A' c kd shf ss ts te
theorem zC1_c {tt c kd shf ss ts te : Nat} {L M : List Nat} {A A' A1 A1' : Nat → Int32} (h : zC1 tt L A A' c kd shf ss ts te) (hA : ∀ i, i < 5 * c + 5 → A1 i = A i) (hA' : ∀ i, i < 60 * tt + 5 * c + 5 → A1' i = A' i) : zC1 tt (L ++ M) A1 A1' c kd shf ss ts te := by
  obtain ⟨⟨a0, a1, a2, a3, a4⟩, ⟨b0, b1, b2, b3, b4⟩, c0, c1, c2, c3, c4, c5, c6⟩ := h
  refine ⟨⟨(hA _ (by omega)).trans a0, (hA _ (by omega)).trans a1, (hA _ (by omega)).trans a2, (hA _ (by omega)).trans a3, (hA _ (by omega)).trans a4⟩, ⟨(hA' _ (by omega)).trans b0, fun h => ⟨(hA' _ (by omega)).trans (b1 h).1, (hA' _ (by omega)).trans (b1 h).2⟩, fun h => (hA' _ (by omega)).trans (b2 h), (hA' _ (by omega)).trans b3, (hA' _ (by omega)).trans b4⟩, c0, c1, c2, c3, by rw [List.length_append]; omega, fun h => ?_, fun h => ⟨(c6 h).1, ?_⟩⟩
  · rw [zsg_app c4]
    exact c5 h
  · rw [zsg_app (by omega)]
    exact (c6 h).2
/-- where both stand ahead of a rule's clause -/
def zQl (nc t : Nat) (B : Nat → Nat) (tt p : Nat) (L : List Nat) (m : Nat) (I I' : zTI) : Prop := zRd t B tt p L m I I' ∧ I 11 8 = nI nc ∧ I' 5 tt = nI nc ∧ I' 0 15 = nI nc ∧ nc ≤ 12 ∧ zCx tt nc L (I 14) (I' 4) ∧ L.length ≤ p
theorem zRd_e {t : Nat} {B : Nat → Nat} {tt p m : Nat} {L : List Nat} {I I' I1 I1' : zTI} (H : zRd t B tt p L m I I') (h11 : ∀ k, k = 1 ∨ k = 2 ∨ k = 4 ∨ k = 6 ∨ k = 9 → I1 11 k = I 11 k) (h12 : I1 12 = I 12) (h13 : I1 13 = I 13) (g0 : ∀ k, k = 1 ∨ k = 9 ∨ k = 10 ∨ k = 12 ∨ k = 13 → I1' 0 k = I' 0 k) (g1 : I1' 1 = I' 1) (g2 : I1' 2 = I' 2) (g3 : I1' 3 = I' 3) : zRd t B tt p L m I1 I1' := by
  obtain ⟨X, C, e9, e13, hm, hv⟩ := H
  exact ⟨zLx_f X (fun k hk => h11 k (by omega)) h12 (fun k hk => g0 k (by omega)) g1, zCo_c C (h11 6 (by omega)) h13 (g0 12 (by omega)) g2 g3, by rw [h11 9 (by omega)]; exact e9, by rw [g0 13 (by omega)]; exact e13, hm, hv.1, by rw [h11 4 (by omega)]; exact hv.2⟩
/-- the clause is whole, in both -/
theorem zQl_fin {nc t tt p1 m1 a kd shf ss ts : Nat} {B : Nat → Nat} {L M : List Nat} {A A' : Nat → Int32} {Z Z' : zTI} (HZ : zRd t B tt p1 (L ++ M) m1 Z Z') (hp : (L ++ M).length ≤ p1) (X0 : zCx tt nc L A A') (hn : nc < 12) (ha : a = 60 * tt + 5 * nc) (hA : ∀ i, i < 5 * nc → Z 14 i = A i) (hA' : ∀ i, i < 60 * tt + 5 * nc → Z' 4 i = A' i) (z8 : Z 11 8 = nI (nc + 1)) (z15 : Z' 0 15 = nI (nc + 1)) (v0 : Z 14 (5 * nc + 0) = nI kd) (v1 : Z 14 (5 * nc + 1) = nI shf) (v2 : Z 14 (5 * nc + 2) = nI ss) (v3 : Z 14 (5 * nc + 3) = nI ts) (w0 : Z' 4 a = nI kd) (w1 : kd = 0 → Z' 4 (a + 1) = nI ss ∧ Z' 4 (a + 2) = nI ts) (w2 : kd = 2 → Z' 4 (a + 1) = nI shf) (w3 : Z' 4 (a + 3) = if ts = (L ++ M).length then -1 else nI ts) (c0 : kd ≤ 2) (c1 : shf ≤ 7) (c2 : kd ≠ 2 → shf = 0) (c3 : ts ≤ (L ++ M).length) (c5 : ts ≠ (L ++ M).length → zty (zsg_ (L ++ M) ts (L ++ M).length) [] = some [true]) (c6 : kd = 0 → ss ≤ ts ∧ zty (zsg_ (L ++ M) ss ts) [] = some [false]) : zQl (nc + 1) t B tt p1 (L ++ M) m1 (zsI Z 14 (5 * nc + 4) (Z 11 6)) (zsI (zsI Z' 4 (a + 4) (Z' 3 tt)) 5 tt (nI (nc + 1))) := by
  have hC := HZ.2.1
  subst ha
  have fA : ∀ i, i ≠ 5 * nc + 4 → zsI Z 14 (5 * nc + 4) (Z 11 6) 14 i = Z 14 i := fun i hi => zsI_no _ _ _ hi
  have fA' : ∀ i, i ≠ 60 * tt + 5 * nc + 4 → zsI (zsI Z' 4 (60 * tt + 5 * nc + 4) (Z' 3 tt)) 5 tt (nI (nc + 1)) 4 i = Z' 4 i := fun i hi => by rw [zsI_ne _ _ _ (by decide), zsI_no _ _ _ hi]
  refine ⟨zRd_e HZ (fun k _ => by rw [zsI_ne _ _ _ (by decide)]) (zsI_ne _ _ _ (by decide)) (zsI_ne _ _ _ (by decide)) (fun k _ => by rw [zsI_ne _ _ _ (by decide), zsI_ne _ _ _ (by decide)]) (by rw [zsI_ne _ _ _ (by decide), zsI_ne _ _ _ (by decide)]) (by rw [zsI_ne _ _ _ (by decide), zsI_ne _ _ _ (by decide)]) (by rw [zsI_ne _ _ _ (by decide), zsI_ne _ _ _ (by decide)]), by rw [zsI_ne _ _ _ (by decide)]; exact z8, zsI_at _ _ _ _, by rw [zsI_ne _ _ _ (by decide), zsI_ne _ _ _ (by decide)]; exact z15, by omega, fun c hc => ?_, hp⟩
  by_cases q : c = nc
  · subst q
    refine ⟨kd, shf, ss, ts, (L ++ M).length, ⟨(fA _ (by omega)).trans v0, (fA _ (by omega)).trans v1, (fA _ (by omega)).trans v2, (fA _ (by omega)).trans v3, by rw [zsI_at]; exact hC.1⟩, ⟨(fA' _ (by omega)).trans w0, fun h => ⟨(fA' _ (by omega)).trans (w1 h).1, (fA' _ (by omega)).trans (w1 h).2⟩, fun h => (fA' _ (by omega)).trans (w2 h), (fA' _ (by omega)).trans w3, by rw [zsI_ne _ _ _ (by decide), zsI_at]; exact hC.2.2.1⟩, c0, c1, c2, c3, Nat.le_refl _, c5, c6⟩
  · obtain ⟨kd', shf', ss', ts', te', h⟩ := X0 c (by omega)
    exact ⟨kd', shf', ss', ts', te', zC1_c h (fun i hi => by rw [fA i (by omega), hA i (by omega)]) (fun i hi => by rw [fA' i (by omega), hA' i (by omega)])⟩
/-- what reading a rule leaves as it is -/
def zIc (I I1 : zTI) : Prop := ∀ i, i ≠ 11 → i ≠ 13 → i ≠ 14 → I1 i = I i
def zIm_ (tt : Nat) (I I1 : zTI) : Prop := (∀ i, i ≠ 0 → i ≠ 2 → i ≠ 3 → i ≠ 4 → i ≠ 5 → i ≠ 7 → I1 i = I i) ∧ (∀ k, k ≠ 9 → k ≠ 10 → k ≠ 11 → k ≠ 13 → k ≠ 14 → k ≠ 15 → k ≠ 17 → I1 0 k = I 0 k) ∧ (∀ j, j < 400 * tt → I1 2 j = I 2 j) ∧ (∀ j, j < 60 * tt → I1 4 j = I 4 j) ∧ ∀ j, j < tt → I1 5 j = I 5 j
theorem zIc.tr {I I1 I2 : zTI} (h : zIc I I1) (g : zIc I1 I2) : zIc I I2 := fun i a b c => (g i a b c).trans (h i a b c)
theorem zHc.i {I I1 : zTI} (h : zHc I I1) : zIc I I1 := fun i a b _ => h.1 i a b
theorem zIc.s {I : zTI} {r k : Nat} {v : Int32} (hr : r = 11 ∨ r = 13 ∨ r = 14) : zIc I (zsI I r k v) := fun i a b c => zsI_ne _ _ _ (by omega)
theorem zIm_.tr {tt : Nat} {I I1 I2 : zTI} (h : zIm_ tt I I1) (g : zIm_ tt I1 I2) : zIm_ tt I I2 := ⟨fun i a b c d e f => (g.1 i a b c d e f).trans (h.1 i a b c d e f), fun k a b c d e f x => (g.2.1 k a b c d e f x).trans (h.2.1 k a b c d e f x), fun j a => (g.2.2.1 j a).trans (h.2.2.1 j a), fun j a => (g.2.2.2.1 j a).trans (h.2.2.2.1 j a), fun j a => (g.2.2.2.2 j a).trans (h.2.2.2.2 j a)⟩
theorem zHt.i {tt : Nat} {I I1 : zTI} (h : zHt tt I I1) : zIm_ tt I I1 := ⟨fun i a b c _ _ d => h.1 i a b c d, fun k a b c d e _ f => h.2.1 k a b c d e f, h.2.2, fun j _ => by rw [h.1 4 (by decide) (by decide) (by decide) (by decide)], fun j _ => by rw [h.1 5 (by decide) (by decide) (by decide) (by decide)]⟩
theorem zIm_.s0 {tt : Nat} {I : zTI} {k : Nat} {v : Int32} (hk : k = 9 ∨ k = 10 ∨ k = 11 ∨ k = 13 ∨ k = 14 ∨ k = 15 ∨ k = 17) : zIm_ tt I (zsI I 0 k v) := ⟨fun i a _ _ _ _ _ => zsI_ne _ _ _ a, fun j a b c d e f x => zsI_no _ _ _ (by omega), fun j _ => by rw [zsI_ne _ _ _ (by decide)], fun j _ => by rw [zsI_ne _ _ _ (by decide)], fun j _ => by rw [zsI_ne _ _ _ (by decide)]⟩
theorem zIm_.s4 {tt : Nat} {I : zTI} {k : Nat} {v : Int32} (hk : 60 * tt ≤ k) : zIm_ tt I (zsI I 4 k v) := ⟨fun i _ _ _ a _ _ => zsI_ne _ _ _ a, fun j _ _ _ _ _ _ _ => by rw [zsI_ne _ _ _ (by decide)], fun j _ => by rw [zsI_ne _ _ _ (by decide)], fun j hj => zsI_no _ _ _ (by omega), fun j _ => by rw [zsI_ne _ _ _ (by decide)]⟩
theorem zIm_.s5 {tt : Nat} {I : zTI} {v : Int32} : zIm_ tt I (zsI I 5 tt v) := ⟨fun i _ _ _ _ a _ => zsI_ne _ _ _ a, fun j _ _ _ _ _ _ _ => by rw [zsI_ne _ _ _ (by decide)], fun j _ => by rw [zsI_ne _ _ _ (by decide)], fun j _ => by rw [zsI_ne _ _ _ (by decide)], fun j hj => zsI_no _ _ _ (by omega)⟩
/-- a test at its beginning, in both -/
theorem p_test0 {σ : zSg} {I I' : zTI} {J J' : zTJ} {t tt p m : Nat} {B : Nat → Nat} {L : List Nat} (H : zRd t B tt p L m I I') (htt : tt < 6) (hL : L.length ≤ p) : ∃ r I1 I1', qu_readTest 33 0 σ I J = some (some (.int r), (zSC σ, I1, J)) ∧ qm_tested I' J' = some (some (.int r), (zSM, I1', J')) ∧ zHc I I1 ∧ zHt tt I' I1' ∧ ((r = 0 ∧ zBad 11 I1 I1') ∨ (r = 1 ∧ ∃ p1 m1 L1, p < p1 ∧ m < m1 ∧ zRd t B tt p1 (L ++ L1) m1 I1 I1' ∧ L1.length + p ≤ p1 ∧ zty L1 [] = some [true])) := by
  have H2 : zRd t B tt p L m I (zsI (zsI I' 0 17 0) 0 14 0) := zRd_e H (fun _ _ => rfl) rfl rfl (fun k hk => by rw [zsI_no _ _ _ (by omega), zsI_no _ _ _ (by omega)]) (by rw [zsI_ne _ _ _ (by decide), zsI_ne _ _ _ (by decide)]) (by rw [zsI_ne _ _ _ (by decide), zsI_ne _ _ _ (by decide)]) (by rw [zsI_ne _ _ _ (by decide), zsI_ne _ _ _ (by decide)])
  obtain ⟨r, I1, h1, h2, h3⟩ := (p_tests (σ := σ) (J := J) (J' := J') (t := t) (B := B) htt 10 0 (by omega)).2 false false [] 0 p m L I _ H2 ⟨by rw [zsI_no _ _ _ (by decide), zsI_at]; rfl, fun i hi => absurd hi (by simp [zqfl])⟩ (fun x hx => by cases hx) (Or.inl rfl) (zsI_at _ _ _ _) (by show _ + 0 ≤ _; omega) (by omega)
  have gt : zHt tt I' (zsI (zsI I' 0 17 0) 0 14 0) := (zHt.s (by omega)).tr (zHt.s (by omega))
  rw [t_qu_readTest, t_qm_tested, t_12, show qu_readTest_7 33 0 0 0 0 σ I J = _ from h1]
  rcases h3 with ⟨rfl, I1', k1, k2, k3⟩ | ⟨rfl, q, m1, L1, -, -, -, k4, k5, k6, k7, k8, k9, -⟩
  · exact ⟨0, I1, I1', rfl, k1, h2, gt.tr k2, Or.inl ⟨rfl, k3⟩⟩
  · obtain ⟨I1', y1, y2, y3⟩ := k9 rfl
    have : (zqfl false false).length = 0 := rfl
    exact ⟨1, I1, I1', rfl, y1, h2, gt.tr y2, Or.inr ⟨rfl, q, m1, L1, k5, k6, y3, by omega, k8 []⟩⟩
