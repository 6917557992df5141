/-! ===== counts ===== -/
theorem p_in2 {x : Int32} {lo hi : Int64} {a b : Int32} (ha : lo.toInt = a.toInt) (hb : hi.toInt = b.toInt) (I : zTI) (J : zTJ) : qm_in x.toInt64 lo hi I J = some (some (.int (if ¬ x < a ∧ ¬ b < x then 1 else 0)), (zSM, I, J)) := by
  rw [t_qm_in]
  have e : x.toInt64.toInt = x.toInt := Int32.toInt_toInt64 x
  by_cases h1 : lg_cmp x.toInt64 lo < 0
  · rw [if_pos h1]
    rw [zcmp_lt, e, ha] at h1
    rw [if_neg (fun q => q.1 (Int32.lt_iff_toInt_lt.mpr h1))]
  · rw [if_neg h1]
    rw [zcmp_lt, e, ha] at h1
    by_cases h2 : 0 < lg_cmp x.toInt64 hi
    · rw [if_pos h2]
      rw [zcmp_gt, e, hb] at h2
      rw [if_neg (fun q => q.2 (Int32.lt_iff_toInt_lt.mpr h2))]
    · rw [if_neg h2]
      rw [zcmp_gt, e, hb] at h2
      rw [if_pos ⟨fun q => h1 (Int32.lt_iff_toInt_lt.mp q), fun q => h2 (Int32.lt_iff_toInt_lt.mp q)⟩]
theorem p_cntL {I : zTI} {J : zTJ} {x : Int32} {nk : Nat} {p : Nat → Bool} (hn : nk ≤ 12) (s1 : I 10 1 = nI nk) (hp : ∀ k, k < nk → qm_isSort (I 10 (20 + 7 * k + 4)) x I J = some (some (.int (if p k then 1 else 0)), (zSM, I, J))) : ∀ d k, k + d = nk → qm_count_93 x (zsum (fun _ => 1) p 0 k) (nI k) I J = some (some (.int (zsum (fun _ => 1) p 0 nk)), (zSM, I, J)) := by
  intro d
  induction d with
  | zero =>
    intro k hk
    rw [t_qm_count_93, s1, if_neg (fun q => by have := (nI_ltI (by omega) (by omega)).mp q; omega), show k = nk by omega]
  | succ d ih =>
    intro k hk
    rw [t_qm_count_93, s1, if_pos (nI_lt (by omega) (by omega)), p_bookOf (y := 4) (j := 4) rfl (by omega) (by omega), zkI_s, hp k (by omega), zkI_s, ← ih (k + 1) (by omega), nI_1, z_add0]
    by_cases h : p k = true
    · rw [if_pos h, if_neg (by decide), show zsum (fun _ => 1) p 0 (k + 1) = zsum (fun _ => 1) p 0 k + 1 from if_pos h]
    · rw [if_neg h, if_pos rfl, show zsum (fun _ => 1) p 0 (k + 1) = zsum (fun _ => 1) p 0 k from if_neg h]
theorem p_betL {w c : Nat} (hwc : zwc w c) {σ : zSg} {I : zTI} {J : zTJ} {lo hi : Int32} {nk : Nat} (hn : nk ≤ 12) (c1 : I c 85 = nI nk) : ∀ d k, k + d = nk → qw_booksBetween_5 w lo hi (zsum (fun _ => 1) (fun k => decide (¬ I c (47 + k) < lo ∧ ¬ hi < I c (47 + k))) 0 k) (nI k) σ I J = some (some (.int (zsum (fun _ => 1) (fun k => decide (¬ I c (47 + k) < lo ∧ ¬ hi < I c (47 + k))) 0 nk)), (zSC σ, I, J)) := by
  intro d
  induction d with
  | zero =>
    intro k hk
    rw [t_qw_booksBetween_5 w _ _ _ _ c hwc, c1, if_neg (fun q => by have := (nI_ltI (by omega) (by omega)).mp q; omega), show k = nk by omega]
  | succ d ih =>
    intro k hk
    rw [t_qw_booksBetween_5 w _ _ _ _ c hwc, c1, if_pos (nI_lt (by omega) (by omega)), zif_k (y := 47) (a := 47) rfl (by omega) (by omega), zif_k (y := 47) (a := 47) rfl (by omega) (by omega), ztn_k (y := 47) (a := 47) rfl (by omega), ← ih (k + 1) (by omega), nI_1]
    by_cases h : I c (47 + k) < lo
    · rw [if_pos h, show zsum (fun _ => 1) (fun k => decide (¬ I c (47 + k) < lo ∧ ¬ hi < I c (47 + k))) 0 (k + 1) = zsum (fun _ => 1) (fun k => decide (¬ I c (47 + k) < lo ∧ ¬ hi < I c (47 + k))) 0 k from if_neg (fun e => (of_decide_eq_true e).1 h)]
    · rw [if_neg h]
      by_cases h2 : hi < I c (47 + k)
      · rw [if_pos h2, show zsum (fun _ => 1) (fun k => decide (¬ I c (47 + k) < lo ∧ ¬ hi < I c (47 + k))) 0 (k + 1) = zsum (fun _ => 1) (fun k => decide (¬ I c (47 + k) < lo ∧ ¬ hi < I c (47 + k))) 0 k from if_neg (fun e => (of_decide_eq_true e).2 h2)]
      · rw [if_neg h2, show zsum (fun _ => 1) (fun k => decide (¬ I c (47 + k) < lo ∧ ¬ hi < I c (47 + k))) 0 (k + 1) = zsum (fun _ => 1) (fun k => decide (¬ I c (47 + k) < lo ∧ ¬ hi < I c (47 + k))) 0 k + 1 from if_pos (decide_eq_true ⟨h, h2⟩)]
theorem z_is7 {x : Int32} {I : zTI} {J : zTJ} : qm_isSort x (nI 7) I J = some (some (.int (if decide (¬ x < 100 ∧ ¬ (101 : Int32) < x) then 1 else 0)), (zSM, I, J)) := by
  rw [t_qm_isSort, if_pos (by decide), p_in2 (a := 100) (b := 101) (by decide) (by decide), zkI_s, zif_t (by split <;> decide +kernel)]
  simp only [decide_eq_true_eq]
theorem z_is8 {x : Int32} (h0 : ¬ x < 0) {I : zTI} {J : zTJ} : qm_isSort x (nI 8) I J = some (some (.int (if decide (¬ x < 0 ∧ ¬ (99 : Int32) < x) then 1 else 0)), (zSM, I, J)) := by
  rw [t_qm_isSort, if_neg (by decide), if_pos (by decide)]
  have e : (x < 100) ↔ ¬ (99 : Int32) < x := by
    rw [Int32.lt_iff_toInt_lt, Int32.lt_iff_toInt_lt, show (100 : Int32).toInt = 100 from by decide, show (99 : Int32).toInt = 99 from by decide]
    omega
  by_cases h : x < 100
  · rw [if_pos h, if_pos (decide_eq_true ⟨h0, e.mp h⟩)]
  · rw [if_neg h, if_neg (fun q => h (e.mpr (of_decide_eq_true q).2))]
theorem z_is9 {x : Int32} {I : zTI} {J : zTJ} : qm_isSort x (nI 9) I J = some (some (.int (if decide (¬ x < 200 ∧ ¬ (299 : Int32) < x) then 1 else 0)), (zSM, I, J)) := by
  rw [t_qm_isSort, if_neg (by decide), if_neg (by decide), if_pos (by decide), p_in2 (a := 200) (b := 299) (by decide) (by decide), zkI_s, zif_t (by split <;> decide +kernel)]
  simp only [decide_eq_true_eq]
theorem z_is10 {x : Int32} {I : zTI} {J : zTJ} : qm_isSort x (nI 10) I J = some (some (.int (if decide (¬ x < 300 ∧ ¬ (300 : Int32) < x) then 1 else 0)), (zSM, I, J)) := by
  rw [t_qm_isSort, if_neg (by decide), if_neg (by decide), if_neg (by decide)]
  have e : (x = 300) ↔ (¬ x < 300 ∧ ¬ (300 : Int32) < x) := by
    rw [← Int32.toInt_inj, Int32.lt_iff_toInt_lt, Int32.lt_iff_toInt_lt]
    omega
  by_cases h : x = 300
  · rw [if_pos h, if_pos (decide_eq_true (e.mp h))]
  · rw [if_neg h, if_neg (fun q => h (e.mpr (of_decide_eq_true q)))]
set_option maxHeartbeats 4000000 in
theorem o_count {nb nk ns nr nh : Nat} {σ : zSg} {I I' : zTI} {J J' : zTJ} (W : zWR nb nk ns nr nh (I 3) (I' 10)) (hW : ∀ k, k < nk → ¬ I' 10 (20 + 7 * k + 4) < 0) (hr : I 0 5 = I' 0 2) (hu : I 0 8 = I' 0 25) (hx : I 3 83 = I' 0 22) (ht : I 0 1 = I' 0 1) (x1 : Int32) : ∃ r, qb_count x1 σ I J = some (some (.int r), (zSC σ, I, J)) ∧ qm_count x1 I' J' = some (some (.int r), (zSM, I', J')) := by
  obtain ⟨⟨-, h1, -, -, -⟩, ⟨s0, s1, s2, s3, s4⟩, ⟨c0, c1, c2, c3, c4⟩, e0, -, hK, -⟩ := id W
  have cell : ∀ (a : Nat) (y : Int32), y = nI a → a < 251 → qw_cell 2 y 0 σ I J = some (some (.int (I 3 a)), (zSC σ, I, J)) := fun a y e h => p_cell w2 (by subst e; exact nI_add a 0) h σ I J
  have bet : ∀ (lo hi : Int32), qw_booksBetween 2 lo hi σ I J = some (some (.int (zsum (fun _ => 1) (fun k => decide (¬ I' 10 (20 + 7 * k + 4) < lo ∧ ¬ hi < I' 10 (20 + 7 * k + 4))) 0 nk)), (zSC σ, I, J)) := fun lo hi => by
    rw [t_qw_booksBetween 2 _ _ 3 w2, show qw_booksBetween_5 2 lo hi 0 0 σ I J = _ from p_betL w2 h1 c1 nk 0 (by omega)]
    rw [zsum_congr (p := fun k => decide (¬ I 3 (47 + k) < lo ∧ ¬ hi < I 3 (47 + k))) (q := fun k => decide (¬ I' 10 (20 + 7 * k + 4) < lo ∧ ¬ hi < I' 10 (20 + 7 * k + 4))) (f := fun _ => 1) (g := fun _ => 1) nk (fun k hk => ⟨by rw [(hK k hk).2.2.2.2.1], fun _ => rfl⟩)]
  rw [t_qb_count, t_qm_count]
  rcases zwhat x1 13 (by omega) with ⟨j, hj, rfl⟩ | q
  · rcases (show j = 0 ∨ j = 1 ∨ j = 2 ∨ j = 3 ∨ j = 4 ∨ j = 5 ∨ j = 6 ∨ j = 7 ∨ j = 8 ∨ j = 9 ∨ j = 10 ∨ j = 11 ∨ j = 12 ∨ j = 13 by omega) with rfl | rfl | rfl | rfl | rfl | rfl | rfl | rfl | rfl | rfl | rfl | rfl | rfl | rfl
    · refine ⟨I' 10 0, ?_, ?_⟩
      · rw [if_pos (by decide), cell 84 84 rfl (by omega), zkI_s, c0, s0]
      · rw [if_pos (by decide), zif_n (by omega) (by omega), ztnn (by omega)]
    · refine ⟨I' 10 1, ?_, ?_⟩
      · rw [if_neg (by decide), if_pos (by decide), cell 85 85 rfl (by omega), zkI_s, c1, s1]
      · rw [if_neg (by decide), if_pos (by decide), zif_n (by omega) (by omega), ztnn (by omega)]
    · refine ⟨I' 10 2, ?_, ?_⟩
      · rw [if_neg (by decide), if_neg (by decide), if_pos (by decide), cell 86 86 rfl (by omega), zkI_s, c2, s2]
      · rw [if_neg (by decide), if_neg (by decide), if_pos (by decide), zif_n (by omega) (by omega), ztnn (by omega)]
    · refine ⟨I' 10 3, ?_, ?_⟩
      · rw [if_neg (by decide), if_neg (by decide), if_neg (by decide), if_pos (by decide), cell 87 87 rfl (by omega), zkI_s, c3, s3]
      · rw [if_neg (by decide), if_neg (by decide), if_neg (by decide), if_pos (by decide), zif_n (by omega) (by omega), ztnn (by omega)]
    · refine ⟨I' 10 4, ?_, ?_⟩
      · rw [if_neg (by decide), if_neg (by decide), if_neg (by decide), if_neg (by decide), if_pos (by decide), cell 88 88 rfl (by omega), zkI_s, c4, s4]
      · rw [if_neg (by decide), if_neg (by decide), if_neg (by decide), if_neg (by decide), if_pos (by decide), zif_n (by omega) (by omega), ztnn (by omega)]
    · refine ⟨I' 0 2, ?_, ?_⟩
      · rw [if_neg (by decide), if_neg (by decide), if_neg (by decide), if_neg (by decide), if_neg (by decide), if_pos (by decide), hr]
      · rw [if_neg (by decide), if_neg (by decide), if_neg (by decide), if_neg (by decide), if_neg (by decide), if_pos (by decide)]
    · refine ⟨I' 10 5, ?_, ?_⟩
      · rw [if_neg (by decide), if_neg (by decide), if_neg (by decide), if_neg (by decide), if_neg (by decide), if_neg (by decide), if_pos (by decide), cell 0 0 rfl (by omega), zkI_s, e0]
      · rw [if_neg (by decide), if_neg (by decide), if_neg (by decide), if_neg (by decide), if_neg (by decide), if_neg (by decide), if_pos (by decide)]
    · refine ⟨zsum (fun _ => 1) (fun k => decide (¬ I' 10 (20 + 7 * k + 4) < 100 ∧ ¬ (101 : Int32) < I' 10 (20 + 7 * k + 4))) 0 nk, ?_, ?_⟩
      · rw [if_neg (by decide), if_neg (by decide), if_neg (by decide), if_neg (by decide), if_neg (by decide), if_neg (by decide), if_neg (by decide), if_pos (by decide), bet 100 101, zkI_s]
      · rw [if_neg (by decide), if_neg (by decide), if_neg (by decide), if_neg (by decide), if_neg (by decide), if_neg (by decide), if_neg (by decide), if_pos (by decide), show qm_count_93 (nI 7) 0 0 I' J' = _ from p_cntL (p := fun k => decide (¬ I' 10 (20 + 7 * k + 4) < 100 ∧ ¬ (101 : Int32) < I' 10 (20 + 7 * k + 4))) h1 s1 (fun k hk => z_is7) nk 0 (by omega)]
    · refine ⟨zsum (fun _ => 1) (fun k => decide (¬ I' 10 (20 + 7 * k + 4) < 0 ∧ ¬ (99 : Int32) < I' 10 (20 + 7 * k + 4))) 0 nk, ?_, ?_⟩
      · rw [if_neg (by decide), if_neg (by decide), if_neg (by decide), if_neg (by decide), if_neg (by decide), if_neg (by decide), if_neg (by decide), if_neg (by decide), if_pos (by decide), bet 0 99, zkI_s]
      · rw [if_neg (by decide), if_neg (by decide), if_neg (by decide), if_neg (by decide), if_neg (by decide), if_neg (by decide), if_neg (by decide), if_neg (by decide), if_pos (by decide), show qm_count_93 (nI 8) 0 0 I' J' = _ from p_cntL (p := fun k => decide (¬ I' 10 (20 + 7 * k + 4) < 0 ∧ ¬ (99 : Int32) < I' 10 (20 + 7 * k + 4))) h1 s1 (fun k hk => z_is8 (hW k hk)) nk 0 (by omega)]
    · refine ⟨zsum (fun _ => 1) (fun k => decide (¬ I' 10 (20 + 7 * k + 4) < 200 ∧ ¬ (299 : Int32) < I' 10 (20 + 7 * k + 4))) 0 nk, ?_, ?_⟩
      · rw [if_neg (by decide), if_neg (by decide), if_neg (by decide), if_neg (by decide), if_neg (by decide), if_neg (by decide), if_neg (by decide), if_neg (by decide), if_neg (by decide), if_pos (by decide), bet 200 299, zkI_s]
      · rw [if_neg (by decide), if_neg (by decide), if_neg (by decide), if_neg (by decide), if_neg (by decide), if_neg (by decide), if_neg (by decide), if_neg (by decide), if_neg (by decide), if_pos (by decide), show qm_count_93 (nI 9) 0 0 I' J' = _ from p_cntL (p := fun k => decide (¬ I' 10 (20 + 7 * k + 4) < 200 ∧ ¬ (299 : Int32) < I' 10 (20 + 7 * k + 4))) h1 s1 (fun k hk => z_is9) nk 0 (by omega)]
    · refine ⟨zsum (fun _ => 1) (fun k => decide (¬ I' 10 (20 + 7 * k + 4) < 300 ∧ ¬ (300 : Int32) < I' 10 (20 + 7 * k + 4))) 0 nk, ?_, ?_⟩
      · rw [if_neg (by decide), if_neg (by decide), if_neg (by decide), if_neg (by decide), if_neg (by decide), if_neg (by decide), if_neg (by decide), if_neg (by decide), if_neg (by decide), if_neg (by decide), if_pos (by decide), bet 300 300, zkI_s]
      · rw [if_neg (by decide), if_neg (by decide), if_neg (by decide), if_neg (by decide), if_neg (by decide), if_neg (by decide), if_neg (by decide), if_neg (by decide), if_neg (by decide), if_neg (by decide), if_pos (by decide), show qm_count_93 (nI 10) 0 0 I' J' = _ from p_cntL (p := fun k => decide (¬ I' 10 (20 + 7 * k + 4) < 300 ∧ ¬ (300 : Int32) < I' 10 (20 + 7 * k + 4))) h1 s1 (fun k hk => z_is10) nk 0 (by omega)]
    · refine ⟨I' 0 25, ?_, ?_⟩
      · rw [if_neg (by decide), if_neg (by decide), if_neg (by decide), if_neg (by decide), if_neg (by decide), if_neg (by decide), if_neg (by decide), if_neg (by decide), if_neg (by decide), if_neg (by decide), if_neg (by decide), if_pos (by decide), hu]
      · rw [if_neg (by decide), if_neg (by decide), if_neg (by decide), if_neg (by decide), if_neg (by decide), if_neg (by decide), if_neg (by decide), if_neg (by decide), if_neg (by decide), if_neg (by decide), if_neg (by decide), if_pos (by decide)]
    · refine ⟨I' 0 22, ?_, ?_⟩
      · rw [if_neg (by decide), if_neg (by decide), if_neg (by decide), if_neg (by decide), if_neg (by decide), if_neg (by decide), if_neg (by decide), if_neg (by decide), if_neg (by decide), if_neg (by decide), if_neg (by decide), if_neg (by decide), if_pos (by decide), cell 83 83 rfl (by omega), zkI_s, hx]
      · rw [if_neg (by decide), if_neg (by decide), if_neg (by decide), if_neg (by decide), if_neg (by decide), if_neg (by decide), if_neg (by decide), if_neg (by decide), if_neg (by decide), if_neg (by decide), if_neg (by decide), if_neg (by decide), if_pos (by decide)]
    · refine ⟨I' 0 1, ?_, ?_⟩
      · rw [if_neg (by decide), if_neg (by decide), if_neg (by decide), if_neg (by decide), if_neg (by decide), if_neg (by decide), if_neg (by decide), if_neg (by decide), if_neg (by decide), if_neg (by decide), if_neg (by decide), if_neg (by decide), if_neg (by decide), if_pos (by decide), ht]
      · rw [if_neg (by decide), if_neg (by decide), if_neg (by decide), if_neg (by decide), if_neg (by decide), if_neg (by decide), if_neg (by decide), if_neg (by decide), if_neg (by decide), if_neg (by decide), if_neg (by decide), if_neg (by decide), if_neg (by decide), if_pos (by decide)]
  · refine ⟨-1, ?_, ?_⟩
    · rw [if_neg (fun e => q (by subst e; decide)), if_neg (fun e => q (by subst e; decide)), if_neg (fun e => q (by subst e; decide)), if_neg (fun e => q (by subst e; decide)), if_neg (fun e => q (by subst e; decide)), if_neg (fun e => q (by subst e; decide)), if_neg (fun e => q (by subst e; decide)), if_neg (fun e => q (by subst e; decide)), if_neg (fun e => q (by subst e; decide)), if_neg (fun e => q (by subst e; decide)), if_neg (fun e => q (by subst e; decide)), if_neg (fun e => q (by subst e; decide)), if_neg (fun e => q (by subst e; decide)), if_neg (fun e => q (by subst e; decide))]
    · rw [if_neg (fun e => q (by subst e; decide)), if_neg (fun e => q (by subst e; decide)), if_neg (fun e => q (by subst e; decide)), if_neg (fun e => q (by subst e; decide)), if_neg (fun e => q (by subst e; decide)), if_neg (fun e => q (by subst e; decide)), if_neg (fun e => q (by subst e; decide)), if_neg (fun e => q (by subst e; decide)), if_neg (fun e => q (by subst e; decide)), if_neg (fun e => q (by subst e; decide)), if_neg (fun e => q (by subst e; decide)), if_neg (fun e => q (by subst e; decide)), if_neg (fun e => q (by subst e; decide)), if_neg (fun e => q (by subst e; decide))]
theorem o_end {σ : zSg} {I I' : zTI} {J J' : zTJ} (ht : I 0 1 = I' 0 1) (x1 : Int32) : (∃ r, qb_end x1 σ I J = some (some (.int r), (zSC σ, I, J)) ∧ qm_end x1 I' J' = some (some (.int r), (zSM, I', J'))) ∨ (¬ x1 < 0 ∧ ¬ I' 0 1 < x1 ∧ qb_end x1 σ I J = some (some (.int x1), (zSC σ, zsI I 0 1 x1, J)) ∧ qm_end x1 I' J' = some (some (.int x1), (zSM, zsI I' 0 1 x1, J'))) := by
  rw [t_qb_end, t_qm_end, ht]
  by_cases h : x1 < 0
  · rw [if_pos h, if_pos h]
    exact Or.inl ⟨_, rfl, rfl⟩
  · rw [if_neg h, if_neg h]
    by_cases h2 : I' 0 1 < x1
    · rw [if_pos h2, if_pos h2]
      exact Or.inl ⟨_, rfl, rfl⟩
    · rw [if_neg h2, if_neg h2]
      exact Or.inr ⟨h, h2, rfl, rfl⟩
theorem o_seed {σ : zSg} {I I' : zTI} {J J' : zTJ} (hx : I 3 83 = I' 0 22) (x1 : Int32) : (∃ r, qb_seed x1 σ I J = some (some (.int r), (zSC σ, I, J)) ∧ qm_seed x1 I' J' = some (some (.int r), (zSM, I', J'))) ∨ (¬ x1 < 0 ∧ ∃ r, qb_seed x1 σ I J = some (some (.int r), (zSC σ, zsI I 3 83 x1, J)) ∧ qm_seed x1 I' J' = some (some (.int r), (zSM, zsI I' 0 22 x1, J'))) := by
  rw [t_qb_seed, t_qm_seed]
  by_cases h : x1 < 0
  · rw [if_pos h, if_pos h]
    exact Or.inl ⟨_, rfl, rfl⟩
  · rw [if_neg h, if_neg h, show qw_cell 2 83 0 σ I J = _ from p_cell w2 (n := 83) (nI_add 83 0) (by omega) σ I J, zkI_s, hx]
    exact Or.inr ⟨h, _, rfl, rfl⟩
