/-! ===== a rule: how the two keep its code ===== -/
theorem s11 : zsn 11 12 := Or.inr ⟨rfl, rfl⟩
theorem zask_t {G : Nat → zM} {S : zO} {D j : Nat} {args : List Value} {h : zH} (h1 : zht (G j) args < D) (h2 : (zar0 args).length ≤ (G j).2.2.1) : zask G S D j args h = S (zht (G j) args) j 0 (zpad (G j).2.2.1 (zar0 args)) [] h := by
  unfold zask
  rw [show (Nat.blt (zht (G j) args) D && Nat.ble (zar0 args).length (G j).2.2.1) = true by
    rw [Bool.and_eq_true]
    exact ⟨Nat.blt_eq.mpr h1, Nat.ble_eq.mpr h2⟩]
/-- the code so far, in both -/
def zCo (tt : Nat) (L : List Nat) (I I' : zTI) : Prop := I 11 6 = nI L.length ∧ I' 0 12 = nI tt ∧ I' 3 tt = nI L.length ∧ (∀ j, j < L.length → I 13 j = nI (L[j]?.getD 0) ∧ I' 2 (400 * tt + j) = nI (zsgn (L[j]?.getD 0))) ∧ ∀ x, x ∈ L → zvt x
/-- where both readers of a rule stand -/
def zRd (t : Nat) (B : Nat → Nat) (tt p : Nat) (L : List Nat) (m : Nat) (I I' : zTI) : Prop := zLx t B 11 12 p I I' ∧ zCo tt L I I' ∧ I 11 9 = nI m ∧ I' 0 13 = nI m ∧ m ≤ 60 ∧ znv L ≤ m ∧ I 11 4 = 0
/-- what reading a sum leaves as it is -/
def zHc (I I1 : zTI) : Prop := (∀ i, i ≠ 11 → i ≠ 13 → I1 i = I i) ∧ ∀ k, k ≠ 2 → k ≠ 3 → k ≠ 4 → k ≠ 6 → k ≠ 9 → I1 11 k = I 11 k
def zHs (tt : Nat) (I I1 : zTI) : Prop := (∀ i, i ≠ 0 → i ≠ 2 → i ≠ 3 → I1 i = I i) ∧ (∀ k, k ≠ 9 → k ≠ 10 → k ≠ 11 → k ≠ 13 → I1 0 k = I 0 k) ∧ ∀ j, j < 400 * tt → I1 2 j = I 2 j
theorem zHc.rf {I : zTI} : zHc I I := ⟨fun _ _ _ => rfl, fun _ _ _ _ _ _ => rfl⟩
theorem zHc.tr {I I1 I2 : zTI} (h : zHc I I1) (g : zHc I1 I2) : zHc I I2 := ⟨fun i a b => (g.1 i a b).trans (h.1 i a b), fun k a b c d e => (g.2 k a b c d e).trans (h.2 k a b c d e)⟩
theorem zHs.rf {tt : Nat} {I : zTI} : zHs tt I I := ⟨fun _ _ _ _ => rfl, fun _ _ _ _ _ => rfl, fun _ _ => rfl⟩
theorem zHs.tr {tt : Nat} {I I1 I2 : zTI} (h : zHs tt I I1) (g : zHs tt I1 I2) : zHs tt I I2 := ⟨fun i a b c => (g.1 i a b c).trans (h.1 i a b c), fun k a b c d => (g.2.1 k a b c d).trans (h.2.1 k a b c d), fun j a => (g.2.2 j a).trans (h.2.2 j a)⟩
theorem zFc.h {I I1 : zTI} (h : zFc 11 I I1) : zHc I I1 := ⟨fun i a _ => h.1 i a, fun k a b c _ _ => h.2 k a b c⟩
theorem zFm.h {tt : Nat} {I I1 : zTI} (h : zFm I I1) : zHs tt I I1 := ⟨fun i a _ _ => h.1 i a, fun k a b c _ => h.2 k a b c, fun j _ => by rw [h.1 2 (by decide)]⟩
theorem zHc.s {I : zTI} {k : Nat} {v : Int32} (hk : k = 2 ∨ k = 3 ∨ k = 4 ∨ k = 6 ∨ k = 9) : zHc I (zsI I 11 k v) := ⟨fun i a _ => zsI_ne _ _ _ a, fun j a b c d e => zsI_no _ _ _ (by omega)⟩
theorem zHs.s {tt : Nat} {I : zTI} {k : Nat} {v : Int32} (hk : k = 9 ∨ k = 10 ∨ k = 11 ∨ k = 13) : zHs tt I (zsI I 0 k v) := ⟨fun i a _ _ => zsI_ne _ _ _ a, fun j a b c d => zsI_no _ _ _ (by omega), fun j _ => by rw [zsI_ne _ _ _ (by decide)]⟩
theorem zat_l {L : List Nat} {x j : Nat} (h : j < L.length) : (L ++ [x])[j]?.getD 0 = L[j]?.getD 0 := by rw [List.getElem?_append_left h]
theorem zat_e {L : List Nat} {x : Nat} : (L ++ [x])[L.length]?.getD 0 = x := by rw [List.getElem?_append_right (Nat.le_refl _), Nat.sub_self]; rfl
theorem zsgn_lt {x : Nat} (h : zvt x) : zsgn x < 2 ^ 31 := by
  unfold zsgn zjs
  rcases h with h | h
  · split
    · omega
    · split
      · omega
      · split
        · omega
        · split <;> omega
  · rw [if_neg (by omega), if_neg (by omega)]
    split
    · omega
    · split <;> omega
/-- both write one more element -/
theorem p_put2 {tt : Nat} {L : List Nat} {x : Nat} {σ : zSg} {I I' : zTI} {J J' : zTJ} (C : zCo tt L I I') (htt : tt < 6) (hL : L.length < 400) (hx : zvt x) : ∃ I1 I1', qu_put (nI x) σ I J = some (none, (zSC σ, I1, J)) ∧ (∀ s v : Int32, s + 16 * v = nI (zsgn x) → qm_puts s v I' J' = some (none, (zSM, I1', J'))) ∧ zCo tt (L ++ [x]) I1 I1' ∧ zHc I I1 ∧ zHs tt I' I1' ∧ (∀ k, k ≠ 6 → I1 11 k = I 11 k) ∧ I1' 0 = I' 0 := by
  obtain ⟨c1, c2, c3, c4, c5⟩ := C
  have e4 : (400 : Int32) * nI tt + nI L.length = nI (400 * tt + L.length) := by
    rw [show (400 : Int32) * nI tt = nI (400 * tt) from (Int32.ofNat_mul 400 tt).symm, nI_add]
  refine ⟨zsI (zsI I 13 L.length (nI x)) 11 6 (nI (L.length + 1)), zsI (zsI I' 2 (400 * tt + L.length) (nI (zsgn x))) 3 tt (nI (L.length + 1)), ?_, fun s v e => ?_, ⟨?_, ?_, ?_, fun j hj => ?_, fun y hy => ?_⟩, ⟨fun i a b => ?_, fun k _ _ _ a _ => ?_⟩, ⟨fun i a b c => ?_, fun k _ _ _ _ => ?_, fun j hj => ?_⟩, fun k a => ?_, ?_⟩
  · rw [t_qu_put, c1, if_pos (show nI L.length < (400 : Int32) from nI_lt (b := 400) hL (by omega)), zif_n hL (by omega), ztnn (by omega), nI_1]
  · rw [t_qm_puts, c2, ztnn (by omega), c3, e4, zif_n (by omega) (by omega), zif_n (by omega) (by omega), zif_n (by omega) (by omega), zif_n (by omega) (by omega), ztnn (by omega), e, nI_1]
  · rw [zsI_at, List.length_append]; rfl
  · rw [zsI_ne _ _ _ (by decide), zsI_ne _ _ _ (by decide)]; exact c2
  · rw [zsI_at, List.length_append]; rfl
  · rw [zsI_ne _ _ _ (show 13 ≠ 11 by decide), zsI_ne _ _ _ (show 2 ≠ 3 by decide)]
    rw [List.length_append, List.length_singleton] at hj
    by_cases q : j = L.length
    · subst q
      rw [zsI_at, zsI_at, zat_e]
      exact ⟨rfl, rfl⟩
    · rw [zsI_no _ _ _ q, zsI_no _ _ _ (by omega), zat_l (by omega)]
      exact c4 j (by omega)
  · rcases List.mem_append.mp hy with h | h
    · exact c5 y h
    · rw [List.mem_singleton.mp h]; exact hx
  · rw [zsI_ne _ _ _ a, zsI_ne _ _ _ b]
  · rw [zsI_no _ _ _ a, zsI_ne _ _ _ (by decide)]
  · rw [zsI_ne _ _ _ c, zsI_ne _ _ _ b]
  · rw [zsI_ne _ _ _ (by decide), zsI_ne _ _ _ (by decide)]
  · rw [zsI_ne _ _ _ (by decide), zsI_no _ _ _ (by omega)]
  · rw [zsI_no _ _ _ a, zsI_ne _ _ _ (by decide)]
  · rw [zsI_ne _ _ _ (by decide), zsI_ne _ _ _ (by decide)]
theorem zLx_f {t p : Nat} {B : Nat → Nat} {I I' I1 I1' : zTI} (L : zLx t B 11 12 p I I') (h1 : ∀ k, k = 1 ∨ k = 2 → I1 11 k = I 11 k) (h12 : I1 12 = I 12) (g0 : ∀ k, k = 1 ∨ k = 9 ∨ k = 10 → I1' 0 k = I' 0 k) (g1 : I1' 1 = I' 1) : zLx t B 11 12 p I1 I1' := by
  obtain ⟨m1, m2, m3, m4, m5, m6, m7⟩ := L
  exact ⟨by rw [h1 1 (by omega)]; exact m1, by rw [h1 2 (by omega)]; exact m2, by rw [g0 1 (by omega)]; exact m3, by rw [g0 9 (by omega)]; exact m4, m5, by rw [h12, g1]; exact m6, by rw [g0 10 (by omega)]; exact m7⟩
theorem znv_app : ∀ (L M : List Nat), znv (L ++ M) = znv L + znv M
  | [], M => by
    show znv M = 0 + znv M
    omega
  | x :: L, M => by
    show (if x < 200000 then 1 else 0) + znv (L ++ M) = (if x < 200000 then 1 else 0) + znv L + znv M
    rw [znv_app L M]
    omega
/-- a joint is put -/
theorem p_putJ {t : Nat} {B : Nat → Nat} {tt p : Nat} {L : List Nat} {m x : Nat} {σ : zSg} {I I' : zTI} {J J' : zTJ} (H : zRd t B tt p L m I I') (htt : tt < 6) (hL : L.length < 400) (hx : 200000 ≤ x ∧ x ≤ 200011) : ∃ I1 I1', qu_put (nI x) σ I J = some (none, (zSC σ, I1, J)) ∧ (∀ s v : Int32, s + 16 * v = nI (zsgn x) → qm_puts s v I' J' = some (none, (zSM, I1', J'))) ∧ zRd t B tt p (L ++ [x]) m I1 I1' ∧ zHc I I1 ∧ zHs tt I' I1' ∧ I1' 0 = I' 0 ∧ (∀ k, k ≠ 6 → I1 11 k = I 11 k) := by
  obtain ⟨X, C, e9, e13, hm, hv⟩ := H
  obtain ⟨I1, I1', h1, h2, h3, h4, h5, h6, h7⟩ := p_put2 (σ := σ) (J := J) (J' := J') C htt hL (Or.inr hx)
  refine ⟨I1, I1', h1, h2, ⟨zLx_f X (fun k hk => h6 k (by omega)) (h4.1 12 (by decide) (by decide)) (fun k _ => by rw [h7]) (h5.1 1 (by decide) (by decide) (by decide)), h3, by rw [h6 9 (by decide)]; exact e9, by rw [h7]; exact e13, hm, ?_, by rw [h6 4 (by decide)]; exact hv.2⟩, h4, h5, h7, h6⟩
  rw [znv_app]
  show znv L + ((if x < 200000 then 1 else 0) + 0) ≤ m
  rw [if_neg (by omega)]
  omega
/-- the words of a value -/
def zwV : List (List Nat) := [[98, 111, 111, 107], [119, 101, 105, 103, 104, 116], [115, 104, 101, 108, 102], [119, 111, 114, 116, 104], [100, 97, 109, 112], [119, 105, 115, 104], [115, 116, 111, 112], [100, 101, 112, 116, 104], [100, 114, 97, 117, 103, 104, 116], [119, 97, 116, 101, 114], [108, 111, 97, 110, 115], [100, 97, 121]]
theorem zwV_j : zSb.getD 2 [] = zjw (zwV.map (List.map nI)) := rfl
theorem zwV_b : ∀ l, l ∈ zwV → l ≠ [] ∧ ∀ a, a ∈ l → 33 ≤ a ∧ a < 256 := by decide
theorem zwV_0 : (1651470187 : Int64) = zn6 (zpq ([98, 111, 111, 107] : List Nat).reverse) := rfl
theorem zwV_1 : (131277443786868 : Int64) = zn6 (zpq ([119, 101, 105, 103, 104, 116] : List Nat).reverse) := rfl
theorem zwV_2 : (495672716390 : Int64) = zn6 (zpq ([115, 104, 101, 108, 102] : List Nat).reverse) := rfl
theorem zwV_3 : (512970880104 : Int64) = zn6 (zpq ([119, 111, 114, 116, 104] : List Nat).reverse) := rfl
theorem zwV_4 : (1684106608 : Int64) = zn6 (zpq ([100, 97, 109, 112] : List Nat).reverse) := rfl
theorem zwV_5 : (2003399528 : Int64) = zn6 (zpq ([119, 105, 115, 104] : List Nat).reverse) := rfl
theorem zwV_6 : (1937010544 : Int64) = zn6 (zpq ([115, 116, 111, 112] : List Nat).reverse) := rfl
theorem zwV_7 : (431198598248 : Int64) = zn6 (zpq ([100, 101, 112, 116, 104] : List Nat).reverse) := rfl
theorem zwV_8 : (28273260578170996 : Int64) = zn6 (zpq ([100, 114, 97, 117, 103, 104, 116] : List Nat).reverse) := rfl
theorem zwV_9 : (512736126322 : Int64) = zn6 (zpq ([119, 97, 116, 101, 114] : List Nat).reverse) := rfl
theorem zwV_10 : (465725124211 : Int64) = zn6 (zpq ([108, 111, 97, 110, 115] : List Nat).reverse) := rfl
theorem zwV_11 : (6578553 : Int64) = zn6 (zpq ([100, 97, 121] : List Nat).reverse) := rfl
set_option maxHeartbeats 4000000 in
theorem p_wordH {J : zTJ} {t q : Nat} {B : Nat → Nat} {C : Nat → Int32} {I : zTI} (T : zTxt t B C (I 1)) (e1 : I 0 1 = nI t) (e9 : I 0 9 = nI q) (hq : q ≤ t) (hz : zru (zbl B) t q = q) : qm_wordHere I J = some (some (.int (zix (zww B t q) zwV 0)), (zSM, I, J)) := by
  rw [t_qm_wordHere, p_isWq T e1 e9 hq hz zwV_0 (by decide) (by decide) (by decide), zkI_s, p_isWq T e1 e9 hq hz zwV_1 (by decide) (by decide) (by decide), zkI_s, p_isWq T e1 e9 hq hz zwV_2 (by decide) (by decide) (by decide), zkI_s, p_isWq T e1 e9 hq hz zwV_3 (by decide) (by decide) (by decide), zkI_s, p_isWq T e1 e9 hq hz zwV_4 (by decide) (by decide) (by decide), zkI_s, p_isWq T e1 e9 hq hz zwV_5 (by decide) (by decide) (by decide), zkI_s, p_isWq T e1 e9 hq hz zwV_6 (by decide) (by decide) (by decide), zkI_s, p_isWq T e1 e9 hq hz zwV_7 (by decide) (by decide) (by decide), zkI_s, p_isWq T e1 e9 hq hz zwV_8 (by decide) (by decide) (by decide), zkI_s, p_isWq T e1 e9 hq hz zwV_9 (by decide) (by decide) (by decide), zkI_s, p_isWq T e1 e9 hq hz zwV_10 (by decide) (by decide) (by decide), zkI_s, p_isWq T e1 e9 hq hz zwV_11 (by decide) (by decide) (by decide), zkI_s]
  unfold zwV zix zix zix zix zix zix zix zix zix zix zix zix zix
  generalize zww B t q = v
  by_cases h0 : v = [98, 111, 111, 107]
  · rw [if_pos h0, if_pos h0, if_neg z10]; rfl
  rw [if_neg h0, if_neg h0, if_pos rfl]
  by_cases h1 : v = [119, 101, 105, 103, 104, 116]
  · rw [if_pos h1, if_pos h1, if_neg z10]; rfl
  rw [if_neg h1, if_neg h1, if_pos rfl]
  by_cases h2 : v = [115, 104, 101, 108, 102]
  · rw [if_pos h2, if_pos h2, if_neg z10]; rfl
  rw [if_neg h2, if_neg h2, if_pos rfl]
  by_cases h3 : v = [119, 111, 114, 116, 104]
  · rw [if_pos h3, if_pos h3, if_neg z10]; rfl
  rw [if_neg h3, if_neg h3, if_pos rfl]
  by_cases h4 : v = [100, 97, 109, 112]
  · rw [if_pos h4, if_pos h4, if_neg z10]; rfl
  rw [if_neg h4, if_neg h4, if_pos rfl]
  by_cases h5 : v = [119, 105, 115, 104]
  · rw [if_pos h5, if_pos h5, if_neg z10]; rfl
  rw [if_neg h5, if_neg h5, if_pos rfl]
  by_cases h6 : v = [115, 116, 111, 112]
  · rw [if_pos h6, if_pos h6, if_neg z10]; rfl
  rw [if_neg h6, if_neg h6, if_pos rfl]
  by_cases h7 : v = [100, 101, 112, 116, 104]
  · rw [if_pos h7, if_pos h7, if_neg z10]; rfl
  rw [if_neg h7, if_neg h7, if_pos rfl]
  by_cases h8 : v = [100, 114, 97, 117, 103, 104, 116]
  · rw [if_pos h8, if_pos h8, if_neg z10]; rfl
  rw [if_neg h8, if_neg h8, if_pos rfl]
  by_cases h9 : v = [119, 97, 116, 101, 114]
  · rw [if_pos h9, if_pos h9, if_neg z10]; rfl
  rw [if_neg h9, if_neg h9, if_pos rfl]
  by_cases h10 : v = [108, 111, 97, 110, 115]
  · rw [if_pos h10, if_pos h10, if_neg z10]; rfl
  rw [if_neg h10, if_neg h10, if_pos rfl]
  by_cases h11 : v = [100, 97, 121]
  · rw [if_pos h11, if_pos h11, if_neg z10]; rfl
  rw [if_neg h11, if_neg h11, if_pos rfl]
theorem zix_V {v : List Nat} : zix v zwV 0 = -1 ∨ ∃ k, k < 12 ∧ zix v zwV 0 = nI k := by
  unfold zwV zix zix zix zix zix zix zix zix zix zix zix zix zix
  by_cases h0 : v = [98, 111, 111, 107]
  · rw [if_pos h0]; exact Or.inr ⟨0, by omega, rfl⟩
  rw [if_neg h0]
  by_cases h1 : v = [119, 101, 105, 103, 104, 116]
  · rw [if_pos h1]; exact Or.inr ⟨1, by omega, rfl⟩
  rw [if_neg h1]
  by_cases h2 : v = [115, 104, 101, 108, 102]
  · rw [if_pos h2]; exact Or.inr ⟨2, by omega, rfl⟩
  rw [if_neg h2]
  by_cases h3 : v = [119, 111, 114, 116, 104]
  · rw [if_pos h3]; exact Or.inr ⟨3, by omega, rfl⟩
  rw [if_neg h3]
  by_cases h4 : v = [100, 97, 109, 112]
  · rw [if_pos h4]; exact Or.inr ⟨4, by omega, rfl⟩
  rw [if_neg h4]
  by_cases h5 : v = [119, 105, 115, 104]
  · rw [if_pos h5]; exact Or.inr ⟨5, by omega, rfl⟩
  rw [if_neg h5]
  by_cases h6 : v = [115, 116, 111, 112]
  · rw [if_pos h6]; exact Or.inr ⟨6, by omega, rfl⟩
  rw [if_neg h6]
  by_cases h7 : v = [100, 101, 112, 116, 104]
  · rw [if_pos h7]; exact Or.inr ⟨7, by omega, rfl⟩
  rw [if_neg h7]
  by_cases h8 : v = [100, 114, 97, 117, 103, 104, 116]
  · rw [if_pos h8]; exact Or.inr ⟨8, by omega, rfl⟩
  rw [if_neg h8]
  by_cases h9 : v = [119, 97, 116, 101, 114]
  · rw [if_pos h9]; exact Or.inr ⟨9, by omega, rfl⟩
  rw [if_neg h9]
  by_cases h10 : v = [108, 111, 97, 110, 115]
  · rw [if_pos h10]; exact Or.inr ⟨10, by omega, rfl⟩
  rw [if_neg h10]
  by_cases h11 : v = [100, 97, 121]
  · rw [if_pos h11]; exact Or.inr ⟨11, by omega, rfl⟩
  rw [if_neg h11]
  exact Or.inl rfl
