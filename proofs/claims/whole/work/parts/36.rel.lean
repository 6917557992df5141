/-! ===== ints that are numbers ===== -/
theorem zof {x : Int32} (h : ¬ x < 0) : ∃ n : Nat, x = nI n ∧ n < 2 ^ 31 := by
  have h0 : 0 ≤ x.toInt := by
    rcases (show x.toInt < 0 ∨ 0 ≤ x.toInt by omega) with q | q
    · exact absurd (Int32.lt_iff_toInt_lt.mpr (show x.toInt < (0 : Int32).toInt from q)) h
    · exact q
  have h1 : x.toInt < 2 ^ 31 := Int32.toInt_lt x
  refine ⟨x.toInt.toNat, ?_, by omega⟩
  apply Int32.toInt_inj.mp
  rw [nI_toInt (by omega)]
  omega
theorem znn {n : Nat} (h : n < 2 ^ 31) : ¬ nI n < 0 := by
  intro q
  have := Int32.lt_iff_toInt_lt.mp q
  rw [nI_toInt h] at this
  have e : (0 : Int32).toInt = 0 := by decide
  omega
theorem zlt {a b : Nat} (ha : a < 2 ^ 31) (hb : b < 2 ^ 31) : (nI a < nI b) = (a < b) := propext (nI_ltI ha hb)
theorem p_cell {w c : Nat} (hwc : zwc w c) {x1 x2 : Int32} {n : Nat} (h : x1 + x2 = nI n) (hn : n < 251) (σ : zSg) (I : zTI) (J : zTJ) : qw_cell w x1 x2 σ I J = some (some (.int (I c n)), (zSC σ, I, J)) := by
  rw [t_qw_cell w x1 x2 c hwc, h, if_neg (znn (by omega)), if_pos (show nI n < (251 : Int32) from nI_lt (b := 251) hn (by decide)), zif_n hn (by omega), ztnn (by omega)]
theorem w2 : zwc 2 3 := Or.inl ⟨rfl, rfl⟩
theorem w16 : zwc 16 17 := Or.inr (Or.inl ⟨rfl, rfl⟩)
theorem w9 : zwc 9 10 := Or.inr (Or.inr ⟨rfl, rfl⟩)
/-- 'is it one of n' -/
theorem p_has {x : Int32} {n : Nat} (hn : n < 2 ^ 31) {α : Type} (a b : α) : (if x < 0 then b else if x < nI n then a else b) = if (∃ k, k < n ∧ x = nI k) then a else b := by
  by_cases h : x < 0
  · rw [if_pos h, if_neg]
    rintro ⟨k, hk, rfl⟩
    exact znn (by omega) h
  · rw [if_neg h]
    obtain ⟨k, rfl, hk⟩ := zof h
    by_cases h2 : k < n
    · rw [if_pos ((nI_ltI hk hn).mpr h2), if_pos ⟨k, h2, rfl⟩]
    · rw [if_neg (fun q => h2 ((nI_ltI hk hn).mp q)), if_neg]
      rintro ⟨j, hj, e⟩
      have : k = j := by
        have := congrArg Int32.toInt e
        rw [nI_toInt hk, nI_toInt (by omega)] at this
        omega
      omega
theorem znI {a b : Nat} (ha : a < 2 ^ 31) (hb : b < 2 ^ 31) (e : nI a = nI b) : a = b := by
  have := congrArg Int32.toInt e
  rw [nI_toInt ha, nI_toInt hb] at this
  omega
theorem zcmp_lt (x y : Int64) : (lg_cmp x y < 0) = (x.toInt < y.toInt) := by
  unfold lg_cmp
  apply propext
  by_cases h1 : x > y
  · rw [if_pos h1]
    have h3 := Int64.lt_iff_toInt_lt.mp h1
    exact ⟨fun q => absurd q (by decide), fun q => absurd q (by omega)⟩
  · rw [if_neg h1]
    have h3 : ¬ y.toInt < x.toInt := fun q => h1 (Int64.lt_iff_toInt_lt.mpr q)
    by_cases h2 : x = y
    · rw [if_pos h2]; subst h2
      exact ⟨fun q => absurd q (by decide), fun q => absurd q (by omega)⟩
    · rw [if_neg h2]
      have h4 : x.toInt ≠ y.toInt := fun q => h2 (Int64.toInt_inj.mp q)
      exact ⟨fun _ => by omega, fun _ => by decide⟩
theorem zcmp_gt (x y : Int64) : (0 < lg_cmp x y) = (y.toInt < x.toInt) := by
  unfold lg_cmp
  apply propext
  by_cases h1 : x > y
  · rw [if_pos h1]
    have h3 := Int64.lt_iff_toInt_lt.mp h1
    exact ⟨fun _ => h3, fun _ => by decide⟩
  · rw [if_neg h1]
    have h3 : ¬ y.toInt < x.toInt := fun q => h1 (Int64.lt_iff_toInt_lt.mpr q)
    by_cases h2 : x = y
    · rw [if_pos h2]
      exact ⟨fun q => absurd q (by decide), fun q => absurd q h3⟩
    · rw [if_neg h2]
      exact ⟨fun q => absurd q (by decide), fun q => absurd q h3⟩
theorem p_in {x : Int32} {hi : Int64} (n : Nat) (hb : hi.toInt = (n : Int)) (I : zTI) (J : zTJ) : qm_in x.toInt64 0 hi I J = some (some (.int (if 0 ≤ x.toInt ∧ x.toInt ≤ (n : Int) then 1 else 0)), (zSM, I, J)) := by
  rw [t_qm_in]
  have ha : (0 : Int64).toInt = 0 := by decide
  have e : x.toInt64.toInt = x.toInt := Int32.toInt_toInt64 x
  by_cases h1 : lg_cmp x.toInt64 0 < 0
  · rw [if_pos h1]
    rw [zcmp_lt, e, ha] at h1
    rw [if_neg (by omega)]
  · rw [if_neg h1]
    rw [zcmp_lt, e, ha] at h1
    by_cases h2 : 0 < lg_cmp x.toInt64 hi
    · rw [if_pos h2]
      rw [zcmp_gt, e, hb] at h2
      rw [if_neg (by omega)]
    · rw [if_neg h2]
      rw [zcmp_gt, e, hb] at h2
      rw [if_pos (by omega)]
/-- the two rivers: the class's cells C, the reference's row S -/
def zWR (nb nk ns nr nh : Nat) (C S : Nat → Int32) : Prop :=
  (nb ≤ 2 ∧ nk ≤ 12 ∧ ns ≤ 8 ∧ nr ≤ 6 ∧ nh ≤ 4) ∧ (S 0 = nI nb ∧ S 1 = nI nk ∧ S 2 = nI ns ∧ S 3 = nI nr ∧ S 4 = nI nh) ∧ (C 84 = nI nb ∧ C 85 = nI nk ∧ C 86 = nI ns ∧ C 87 = nI nr ∧ C 88 = nI nh) ∧ C 0 = S 5 ∧
  (∀ b, b < nb → C (89 + b) = S (6 + 7 * b + 0) ∧ C (91 + b) = S (6 + 7 * b + 1) ∧ C (93 + b) = S (6 + 7 * b + 2) ∧ C (95 + b) = S (6 + 7 * b + 3) ∧ C (3 + b) = S (6 + 7 * b + 4) ∧ C (1 + b) = S (6 + 7 * b + 5) ∧ C (5 + b) = S (6 + 7 * b + 6)) ∧
  (∀ k, k < nk → C (97 + k) = S (20 + 7 * k + 0) ∧ C (109 + k) = S (20 + 7 * k + 1) ∧ C (35 + k) = S (20 + 7 * k + 2) ∧ C (23 + k) = S (20 + 7 * k + 3) ∧ C (47 + k) = S (20 + 7 * k + 4) ∧ C (59 + k) = S (20 + 7 * k + 5) ∧ C (71 + k) = S (20 + 7 * k + 6)) ∧
  (∀ s, s < ns → ∃ n, 1 ≤ n ∧ n ≤ 4 ∧ S (104 + 5 * s) = nI n ∧ ∀ j, j < 4 → C (121 + 4 * s + j) = S (104 + 5 * s + 1 + min j (n - 1))) ∧
  (∀ r, r < nr → C (153 + r) = S (144 + 5 * r + 0) ∧ C (159 + r) = S (144 + 5 * r + 1) ∧ C (165 + r) = S (144 + 5 * r + 2) ∧ C (11 + r) = S (144 + 5 * r + 3) ∧ C (17 + r) = S (144 + 5 * r + 4) ∧ ∀ k, k < 12 → C (171 + (12 * r + k)) = S (174 + 12 * r + k)) ∧
  (∀ h, h < nh → C (243 + h) = S (246 + 3 * h + 0) ∧ C (247 + h) = S (246 + 3 * h + 1) ∧ C (7 + h) = S (246 + 3 * h + 2))
/-- one of n; none -/
theorem zcase (x : Int32) (n : Nat) (hn : n < 2 ^ 31) : (∃ k, k < n ∧ x = nI k) ∨ ((x < 0) ∨ ¬ x < 0 ∧ ¬ x < nI n) := by
  by_cases h : x < 0
  · exact Or.inr (Or.inl h)
  · obtain ⟨k, rfl, hk⟩ := zof h
    by_cases h2 : k < n
    · exact Or.inl ⟨k, h2, rfl⟩
    · exact Or.inr (Or.inr ⟨h, fun q => h2 ((nI_ltI hk hn).mp q)⟩)
theorem zid {a b c x k : Nat} {y : Int32} (h : y = nI k) : (nI a + nI b * nI x) + y = nI (a + b * x + k) := by
  subst h
  rw [show nI b * nI x = nI (b * x) from (Int32.ofNat_mul b x).symm, nI_add, nI_add]
theorem zwhat (x : Int32) (n : Nat) (hn : n < 2 ^ 31) : (∃ k, k ≤ n ∧ x = nI k) ∨ ¬ (0 ≤ x.toInt ∧ x.toInt ≤ n) := by
  by_cases q : 0 ≤ x.toInt ∧ x.toInt ≤ n
  · refine Or.inl ⟨x.toInt.toNat, by omega, Int32.toInt_inj.mp ?_⟩
    rw [nI_toInt (by omega)]
    omega
  · exact Or.inr q
theorem zrange {j n : Nat} (h : j ≤ n) (hn : n < 2 ^ 31) : 0 ≤ (nI j).toInt ∧ (nI j).toInt ≤ n := by
  rw [nI_toInt (by omega)]
  omega
set_option maxHeartbeats 1000000 in
theorem o_reader {nb nk ns nr nh : Nat} {σ : zSg} {I I' : zTI} {J J' : zTJ} (W : zWR nb nk ns nr nh (I 3) (I' 10)) (x1 x2 : Int32) : ∃ r, qb_reader x1 x2 σ I J = some (some (.int r), (zSC σ, I, J)) ∧ qm_reader x1 x2 I' J' = some (some (.int r), (zSM, I', J')) := by
  obtain ⟨⟨-, -, -, h3, -⟩, ⟨-, -, -, s3, -⟩, ⟨-, -, -, c3, -⟩, -, -, -, -, hR, -⟩ := W
  rw [t_qb_reader, t_qm_reader, t_qw_hasReader 2 x1 3 w2, t_qm_isReader, s3, c3]
  rcases zcase x1 nr (by omega) with ⟨k, hk, rfl⟩ | h | ⟨h, h'⟩
  · have hk0 := znn (show k < 2 ^ 31 by omega)
    have hk1 := nI_lt hk (show nr < 2 ^ 31 by omega)
    simp only [if_neg hk0, if_pos hk1, zkI_s, p_in (x := x2) (hi := 4) 4 rfl]
    rw [if_neg (show ¬ (1 : Int32) = 0 by decide), if_neg (show ¬ (1 : Int32) = 0 by decide)]
    obtain ⟨r0, r1, r2, r3, r4, -⟩ := hR k hk
    have mm : ∀ j, j ≤ 4 → qm_readerOf (nI k) (nI j) I' J' = some (some (.int (I' 10 (144 + 5 * k + j))), (zSM, I', J')) := fun j hj => by
      rw [t_qm_readerOf, show ((144 : Int32) + 5 * nI k) + nI j = nI (144 + 5 * k + j) from zid (c := 0) rfl, zif_n (by omega) (by omega), ztnn (by omega)]
    have cc : ∀ (a : Nat) (y : Int32), y = nI a → a + k < 251 → qw_cell 2 y (nI k) σ I J = some (some (.int (I 3 (a + k))), (zSC σ, I, J)) := fun a y e h => p_cell w2 (by subst e; exact nI_add a k) h σ I J
    rcases zwhat x2 4 (by omega) with ⟨j, hj, rfl⟩ | q
    · rw [if_pos (zrange hj (by omega)), if_neg (show ¬ (1 : Int32) = 0 by decide), mm j hj, zkI_s]
      refine ⟨_, ?_, rfl⟩
      rcases (show j = 0 ∨ j = 1 ∨ j = 2 ∨ j = 3 ∨ j = 4 by omega) with rfl | rfl | rfl | rfl | rfl
      · rw [if_pos (by decide), cc 153 153 rfl (by omega), zkI_s, r0]
      · rw [if_neg (by decide), if_pos (by decide), cc 159 159 rfl (by omega), zkI_s, r1]
      · rw [if_neg (by decide), if_neg (by decide), if_pos (by decide), cc 165 165 rfl (by omega), zkI_s, r2]
      · rw [if_neg (by decide), if_neg (by decide), if_neg (by decide), if_pos (by decide), cc 11 11 rfl (by omega), zkI_s, r3]
      · rw [if_neg (by decide), if_neg (by decide), if_neg (by decide), if_neg (by decide), if_pos (by decide), cc 17 17 rfl (by omega), zkI_s, r4]
    · rw [if_neg q, if_pos rfl]
      refine ⟨_, ?_, rfl⟩
      rw [if_neg (fun e => q (by subst e; decide)), if_neg (fun e => q (by subst e; decide)), if_neg (fun e => q (by subst e; decide)), if_neg (fun e => q (by subst e; decide)), if_neg (fun e => q (by subst e; decide))]
  · simp only [if_pos h, zkI_s]
    exact ⟨_, rfl, rfl⟩
  · simp only [if_neg h, if_neg h', zkI_s]
    exact ⟨_, rfl, rfl⟩
set_option maxHeartbeats 1000000 in
theorem o_hole {nb nk ns nr nh : Nat} {σ : zSg} {I I' : zTI} {J J' : zTJ} (W : zWR nb nk ns nr nh (I 3) (I' 10)) (x1 x2 : Int32) : ∃ r, qb_hole x1 x2 σ I J = some (some (.int r), (zSC σ, I, J)) ∧ qm_hole x1 x2 I' J' = some (some (.int r), (zSM, I', J')) := by
  obtain ⟨⟨-, -, -, -, h3⟩, ⟨-, -, -, -, s3⟩, ⟨-, -, -, -, c3⟩, -, -, -, -, -, hR⟩ := W
  rw [t_qb_hole, t_qm_hole, t_qw_hasHole 2 x1 3 w2, t_qm_isHole, s3, c3]
  rcases zcase x1 nh (by omega) with ⟨k, hk, rfl⟩ | h | ⟨h, h'⟩
  · have hk0 := znn (show k < 2 ^ 31 by omega)
    have hk1 := nI_lt hk (show nh < 2 ^ 31 by omega)
    simp only [if_neg hk0, if_pos hk1, zkI_s, p_in (x := x2) (hi := 2) 2 rfl]
    rw [if_neg (show ¬ (1 : Int32) = 0 by decide), if_neg (show ¬ (1 : Int32) = 0 by decide)]
    obtain ⟨r0, r1, r2⟩ := hR k hk
    have mm : ∀ j, j ≤ 2 → qm_holeOf (nI k) (nI j) I' J' = some (some (.int (I' 10 (246 + 3 * k + j))), (zSM, I', J')) := fun j hj => by
      rw [t_qm_holeOf, show ((246 : Int32) + 3 * nI k) + nI j = nI (246 + 3 * k + j) from zid (c := 0) rfl, zif_n (by omega) (by omega), ztnn (by omega)]
    have cc : ∀ (a : Nat) (y : Int32), y = nI a → a + k < 251 → qw_cell 2 y (nI k) σ I J = some (some (.int (I 3 (a + k))), (zSC σ, I, J)) := fun a y e h => p_cell w2 (by subst e; exact nI_add a k) h σ I J
    rcases zwhat x2 2 (by omega) with ⟨j, hj, rfl⟩ | q
    · rw [if_pos (zrange hj (by omega)), if_neg (show ¬ (1 : Int32) = 0 by decide), mm j hj, zkI_s]
      refine ⟨_, ?_, rfl⟩
      rcases (show j = 0 ∨ j = 1 ∨ j = 2 by omega) with rfl | rfl | rfl
      · rw [if_pos (by decide), cc 243 243 rfl (by omega), zkI_s, r0]
      · rw [if_neg (by decide), if_pos (by decide), cc 247 247 rfl (by omega), zkI_s, r1]
      · rw [if_neg (by decide), if_neg (by decide), if_pos (by decide), cc 7 7 rfl (by omega), zkI_s, r2]
    · rw [if_neg q, if_pos rfl]
      refine ⟨_, ?_, rfl⟩
      rw [if_neg (fun e => q (by subst e; decide)), if_neg (fun e => q (by subst e; decide)), if_neg (fun e => q (by subst e; decide))]
  · simp only [if_pos h, zkI_s]
    exact ⟨_, rfl, rfl⟩
  · simp only [if_neg h, if_neg h', zkI_s]
    exact ⟨_, rfl, rfl⟩
set_option maxHeartbeats 1000000 in
theorem o_book {nb nk ns nr nh : Nat} {σ : zSg} {I I' : zTI} {J J' : zTJ} (W : zWR nb nk ns nr nh (I 3) (I' 10)) (x1 x2 : Int32) : ∃ r, qb_book x1 x2 σ I J = some (some (.int r), (zSC σ, I, J)) ∧ qm_book x1 x2 I' J' = some (some (.int r), (zSM, I', J')) := by
  obtain ⟨⟨-, h3, -, -, -⟩, ⟨-, s3, -, -, -⟩, ⟨-, c3, -, -, -⟩, -, -, hR, -, -, -⟩ := W
  rw [t_qb_book, t_qm_book, t_qw_hasBook 2 x1 3 w2, t_qm_isBook, s3, c3]
  rcases zcase x1 nk (by omega) with ⟨k, hk, rfl⟩ | h | ⟨h, h'⟩
  · have hk0 := znn (show k < 2 ^ 31 by omega)
    have hk1 := nI_lt hk (show nk < 2 ^ 31 by omega)
    simp only [if_neg hk0, if_pos hk1, zkI_s, p_in (x := x2) (hi := 6) 6 rfl]
    rw [if_neg (show ¬ (1 : Int32) = 0 by decide), if_neg (show ¬ (1 : Int32) = 0 by decide)]
    obtain ⟨r0, r1, r2, r3, r4, r5, r6⟩ := hR k hk
    have mm : ∀ j, j ≤ 6 → qm_bookOf (nI k) (nI j) I' J' = some (some (.int (I' 10 (20 + 7 * k + j))), (zSM, I', J')) := fun j hj => by
      rw [t_qm_bookOf, show ((20 : Int32) + 7 * nI k) + nI j = nI (20 + 7 * k + j) from zid (c := 0) rfl, zif_n (by omega) (by omega), ztnn (by omega)]
    have cc : ∀ (a : Nat) (y : Int32), y = nI a → a + k < 251 → qw_cell 2 y (nI k) σ I J = some (some (.int (I 3 (a + k))), (zSC σ, I, J)) := fun a y e h => p_cell w2 (by subst e; exact nI_add a k) h σ I J
    rcases zwhat x2 6 (by omega) with ⟨j, hj, rfl⟩ | q
    · rw [if_pos (zrange hj (by omega)), if_neg (show ¬ (1 : Int32) = 0 by decide)]
      rcases (show j = 0 ∨ j = 1 ∨ j = 2 ∨ j = 3 ∨ j = 4 ∨ j = 5 ∨ j = 6 by omega) with rfl | rfl | rfl | rfl | rfl | rfl | rfl
      · refine ⟨I' 10 (20 + 7 * k + 0), ?_, ?_⟩
        · rw [if_pos (by decide), cc 97 97 rfl (by omega), zkI_s, r0]
        · rw [if_pos (by decide), show qm_bookOf (nI k) 0 I' J' = _ from mm 0 (by omega), zkI_s]
      · refine ⟨I' 10 (20 + 7 * k + 3), ?_, ?_⟩
        · rw [if_neg (by decide), if_pos (by decide), cc 23 23 rfl (by omega), zkI_s, r3]
        · rw [if_neg (by decide), if_pos (by decide), show qm_bookOf (nI k) 3 I' J' = _ from mm 3 (by omega), zkI_s]
      · refine ⟨I' 10 (20 + 7 * k + 1), ?_, ?_⟩
        · rw [if_neg (by decide), if_neg (by decide), if_pos (by decide), cc 109 109 rfl (by omega), zkI_s, r1]
        · rw [if_neg (by decide), if_neg (by decide), if_pos (by decide), show qm_bookOf (nI k) 1 I' J' = _ from mm 1 (by omega), zkI_s]
      · refine ⟨I' 10 (20 + 7 * k + 2), ?_, ?_⟩
        · rw [if_neg (by decide), if_neg (by decide), if_neg (by decide), if_pos (by decide), cc 35 35 rfl (by omega), zkI_s, r2]
        · rw [if_neg (by decide), if_neg (by decide), if_neg (by decide), if_pos (by decide), show qm_bookOf (nI k) 2 I' J' = _ from mm 2 (by omega), zkI_s]
      · refine ⟨I' 10 (20 + 7 * k + 4), ?_, ?_⟩
        · rw [if_neg (by decide), if_neg (by decide), if_neg (by decide), if_neg (by decide), if_pos (by decide), cc 47 47 rfl (by omega), zkI_s, r4]
        · rw [if_neg (by decide), if_neg (by decide), if_neg (by decide), if_neg (by decide), mm 4 (by omega), zkI_s]
      · refine ⟨I' 10 (20 + 7 * k + 5), ?_, ?_⟩
        · rw [if_neg (by decide), if_neg (by decide), if_neg (by decide), if_neg (by decide), if_neg (by decide), if_pos (by decide), cc 59 59 rfl (by omega), zkI_s, r5]
        · rw [if_neg (by decide), if_neg (by decide), if_neg (by decide), if_neg (by decide), mm 5 (by omega), zkI_s]
      · refine ⟨I' 10 (20 + 7 * k + 6), ?_, ?_⟩
        · rw [if_neg (by decide), if_neg (by decide), if_neg (by decide), if_neg (by decide), if_neg (by decide), if_neg (by decide), if_pos (by decide), cc 71 71 rfl (by omega), zkI_s, r6]
        · rw [if_neg (by decide), if_neg (by decide), if_neg (by decide), if_neg (by decide), mm 6 (by omega), zkI_s]
    · rw [if_neg q, if_pos rfl]
      refine ⟨_, ?_, rfl⟩
      rw [if_neg (fun e => q (by subst e; decide)), if_neg (fun e => q (by subst e; decide)), if_neg (fun e => q (by subst e; decide)), if_neg (fun e => q (by subst e; decide)), if_neg (fun e => q (by subst e; decide)), if_neg (fun e => q (by subst e; decide)), if_neg (fun e => q (by subst e; decide))]
  · simp only [if_pos h, zkI_s]
    exact ⟨_, rfl, rfl⟩
  · simp only [if_neg h, if_neg h', zkI_s]
    exact ⟨_, rfl, rfl⟩
set_option maxHeartbeats 1000000 in
theorem o_wish {nb nk ns nr nh : Nat} {σ : zSg} {I I' : zTI} {J J' : zTJ} (W : zWR nb nk ns nr nh (I 3) (I' 10)) (x1 x2 : Int32) : ∃ r, qb_wish x1 x2 σ I J = some (some (.int r), (zSC σ, I, J)) ∧ qm_wish x1 x2 I' J' = some (some (.int r), (zSM, I', J')) := by
  obtain ⟨⟨-, h1, -, h3, -⟩, ⟨-, s1, -, s3, -⟩, ⟨-, c1, -, c3, -⟩, -, -, -, -, hR, -⟩ := W
  rw [t_qb_wish, t_qm_wish, t_qw_hasReader 2 x1 3 w2, t_qm_isReader, s3, c3]
  rcases zcase x1 nr (by omega) with ⟨r, hr, rfl⟩ | h | ⟨h, h'⟩
  · have hk0 := znn (show r < 2 ^ 31 by omega)
    have hk1 := nI_lt hr (show nr < 2 ^ 31 by omega)
    simp only [if_neg hk0, if_pos hk1, zkI_s]
    rw [if_neg (show ¬ (1 : Int32) = 0 by decide), if_neg (show ¬ (1 : Int32) = 0 by decide), t_qw_hasBook 2 x2 3 w2, t_qm_isBook, s1, c1]
    rcases zcase x2 nk (by omega) with ⟨k, hk, rfl⟩ | h | ⟨h, h'⟩
    · have hk2 := znn (show k < 2 ^ 31 by omega)
      have hk3 := nI_lt hk (show nk < 2 ^ 31 by omega)
      simp only [if_neg hk2, if_pos hk3, zkI_s]
      rw [if_neg (show ¬ (1 : Int32) = 0 by decide), if_neg (show ¬ (1 : Int32) = 0 by decide), t_qw_coins 2 (nI r) (nI k) 3 w2, t_qm_wishOf, show ((174 : Int32) + 12 * nI r) + nI k = nI (174 + 12 * r + k) from zid (c := 0) rfl, zif_n (by omega) (by omega), ztnn (by omega),
        show qw_cell 2 171 (nI r * 12 + nI k) σ I J = _ from p_cell w2 (n := 171 + (12 * r + k)) (by rw [show nI r * 12 = nI (12 * r) from by rw [Nat.mul_comm]; exact (Int32.ofNat_mul r 12).symm, nI_add]; exact nI_add 171 _) (by omega) σ I J]
      simp only [zkI_s]
      rw [(hR r hr).2.2.2.2.2 k (by omega)]
      exact ⟨_, rfl, rfl⟩
    · simp only [if_pos h, zkI_s]
      exact ⟨_, rfl, rfl⟩
    · simp only [if_neg h, if_neg h', zkI_s]
      exact ⟨_, rfl, rfl⟩
  · simp only [if_pos h, zkI_s]
    exact ⟨_, rfl, rfl⟩
  · simp only [if_neg h, if_neg h', zkI_s]
    exact ⟨_, rfl, rfl⟩
