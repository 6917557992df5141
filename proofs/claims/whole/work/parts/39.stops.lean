/-! ===== depths, stops ===== -/
theorem z_season {x : Int32} {d : Nat} (hd : d < 2 ^ 31) (e : x = nI d) : (x / 90) - (x / 90) / 4 * 4 = nI (d / 90 % 4) := by
  subst e
  rw [show nI d / 90 = nI (d / 90) from pk_div hd (by decide) (by decide)]
  exact pk_rem (by omega) (by decide) (by decide)
theorem p_depthOf {I : zTI} {J : zTJ} {s d n : Nat} (hs : s < 8) (hd : d < 2 ^ 31) (e5 : I 10 5 = nI d) (h1 : 1 ≤ n) (h4 : n ≤ 4) (en : I 10 (104 + 5 * s) = nI n) : qm_depthOf (nI s) I J = some (some (.int (I 10 (104 + 5 * s + 1 + min (d / 90 % 4) (n - 1)) + I 0 23)), (zSM, I, J)) := by
  have e0 : (104 : Int32) + 5 * nI s = nI (104 + 5 * s) := by
    rw [show (5 : Int32) * nI s = nI (5 * s) from (Int32.ofNat_mul 5 s).symm]
    exact nI_add 104 _
  have hm : d / 90 % 4 < 4 := Nat.mod_lt _ (by decide)
  rw [t_qm_depthOf, z_season hd e5, e0, zif_n (by omega) (by omega), zif_n (by omega) (by omega), ztnn (by omega), en, show nI (104 + 5 * s) + 1 = nI (104 + 5 * s + 1) from nI_1 _]
  by_cases h : d / 90 % 4 < n
  · rw [if_pos (nI_lt h (by omega)), nI_add, zif_n (by omega) (by omega), ztnn (by omega), show min (d / 90 % 4) (n - 1) = d / 90 % 4 by omega]
  · rw [if_neg (fun q => h ((nI_ltI (by omega) (by omega)).mp q)), show nI n - 1 = nI (n - 1) from by
      have e1 : nI (n - 1) + 1 = nI n := by rw [nI_1, show n - 1 + 1 = n by omega]
      rw [← e1, Int32.add_sub_cancel], nI_add, zif_n (by omega) (by omega), ztnn (by omega), show min (d / 90 % 4) (n - 1) = n - 1 by omega]
theorem p_depthOfW {w c : Nat} (hwc : zwc w c) {σ : zSg} {I : zTI} {J : zTJ} {s d ns : Nat} (hs : s < ns) (hn : ns ≤ 8) (c2 : I c 86 = nI ns) (hd : d < 2 ^ 31) (e5 : I c 0 = nI d) : qw_depthOf w (nI s) σ I J = some (some (.int (I c (121 + 4 * s + d / 90 % 4))), (zSC σ, I, J)) := by
  have e0 : (121 : Int32) + nI s * 4 = nI (121 + 4 * s) := by
    rw [show nI s * 4 = nI (4 * s) from by rw [Nat.mul_comm]; exact (Int32.ofNat_mul s 4).symm]
    exact nI_add 121 _
  have hm : d / 90 % 4 < 4 := Nat.mod_lt _ (by decide)
  rw [t_qw_depthOf w _ c hwc, t_qw_hasStop w _ c hwc, c2, if_neg (znn (by omega)), if_pos (nI_lt hs (by omega)), zkI_s, if_neg (by decide), z_season hd e5, e0, nI_add, zif_n (by omega) (by omega), ztnn (by omega)]
/-- the day's bounds -/
def zDay (S : Nat → Int32) (d : Nat) : Prop := S 5 = nI d ∧ d ≤ 9999
theorem p_passesBy {I : zTI} {J : zTJ} {s d n nk b : Nat} {set : Int32} (hs : s < 8) (hd : d < 2 ^ 31) (e5 : I 10 5 = nI d) (g1 : 1 ≤ n) (g4 : n ≤ 4) (en : I 10 (104 + 5 * s) = nI n) (hb : b < 2) (hn : nk ≤ 12) (s1 : I 10 1 = nI nk) (h2 : ¬ I 10 (6 + 7 * b + 2) = 0) (h3 : ¬ I 10 (6 + 7 * b + 3) = 0) : qm_passesBy (nI b) set (nI s) I J = some (some (.int (if I 10 (104 + 5 * s + 1 + min (d / 90 % 4) (n - 1)) + I 0 23 < zdrB (I 10) nk b set then 0 else 1)), (zSM, I, J)) := by
  rw [t_qm_passesBy, p_depthOf hs hd e5 g1 g4 en, zkI_s, p_draughtBy hb hn s1 h2 h3, zkI_s]
  split <;> rfl
theorem p_passesNow {I : zTI} {J : zTJ} {s d n nk b : Nat} (hs : s < 8) (hd : d < 2 ^ 31) (e5 : I 10 5 = nI d) (g1 : 1 ≤ n) (g4 : n ≤ 4) (en : I 10 (104 + 5 * s) = nI n) (hb : b < 2) (hn : nk ≤ 12) (s1 : I 10 1 = nI nk) (h2 : ¬ I 10 (6 + 7 * b + 2) = 0) (h3 : ¬ I 10 (6 + 7 * b + 3) = 0) : qm_passesNow (nI b) (nI s) I J = some (some (.int (if I 10 (104 + 5 * s + 1 + min (d / 90 % 4) (n - 1)) + I 0 23 < zdrB (I 10) nk b (zset (zab (I 10) b) nk) then 0 else 1)), (zSM, I, J)) := by
  rw [t_qm_passesNow, p_aboardOf hn s1, zkI_s, p_passesBy hs hd e5 g1 g4 en hb hn s1 h2 h3, zkI_s]
  split
  · rw [zif_t zbo_0]
  · rw [zif_t zbo_1]
/-- the class's, in the reference's words -/
theorem p_passesW {nb nk ns nr nh : Nat} {σ : zSg} {I I' : zTI} {J : zTJ} (W : zWR nb nk ns nr nh (I 3) (I' 10)) (B : zWB nb nk (I' 10)) {d : Nat} (D : zDay (I' 10) d) {b s n : Nat} (hb : b < nb) (hs : s < ns) (hj : ∀ j, j < 4 → I 3 (121 + 4 * s + j) = I' 10 (104 + 5 * s + 1 + min j (n - 1))) : qw_passes 2 (nI b) (nI s) σ I J = some (some (.int (if I' 10 (104 + 5 * s + 1 + min (d / 90 % 4) (n - 1)) < zdrB (I' 10) nk b (zset (zab (I' 10) b) nk) then 0 else 1)), (zSC σ, I, J)) := by
  have hd : d < 2 ^ 31 := by have := D.2; omega
  obtain ⟨⟨h0, h1, h2, -, -⟩, -, ⟨-, c1, c2, -, -⟩, e0, hB, -⟩ := id W
  obtain ⟨g2, g3⟩ := B.1 b hb
  obtain ⟨-, -, b2, b3, -⟩ := hB b hb
  rw [t_qw_passes 2 _ _ 3 w2, p_depthOfW w2 hs h2 c2 hd (e0.trans D.1), zkI_s, p_draughtOfW w2 (by omega) h1 c1 (by rw [b2]; exact g2) (by rw [b3]; exact g3), zkI_s, z_draughts W B hb, hj _ (Nat.mod_lt _ (by decide))]
  split <;> rfl
theorem p_leftL {I : zTI} {J : zTJ} {x : Int32} {nk : Nat} (hn : nk ≤ 12) (s1 : I 10 1 = nI nk) : ∀ d k, k + d = nk → qm_leftAt_4 x (zset (fun k => decide (I 10 (20 + 7 * k + 4) = x)) k) (nI k) I J = some (some (.int (zset (fun k => decide (I 10 (20 + 7 * k + 4) = x)) nk)), (zSM, I, J)) := by
  intro d
  induction d with
  | zero =>
    intro k hk
    rw [t_qm_leftAt_4, s1, if_neg (fun q => by have := (nI_ltI (by omega) (by omega)).mp q; omega), show k = nk by omega]
  | succ d ih =>
    intro k hk
    rw [t_qm_leftAt_4, s1, if_pos (nI_lt (by omega) (by omega)), p_bookOf (y := 4) (j := 4) rfl (by omega) (by omega), zkI_s, ← ih (k + 1) (by omega), nI_1, z_or0]
    by_cases h : I 10 (20 + 7 * k + 4) = x
    · rw [if_pos h, show zset (fun k => decide (I 10 (20 + 7 * k + 4) = x)) (k + 1) = zset (fun k => decide (I 10 (20 + 7 * k + 4) = x)) k ||| ((1 : Int32) <<< (nI k &&& 31)) from if_pos (decide_eq_true h)]
    · rw [if_neg h, show zset (fun k => decide (I 10 (20 + 7 * k + 4) = x)) (k + 1) = zset (fun k => decide (I 10 (20 + 7 * k + 4) = x)) k from if_neg (fun e => h (of_decide_eq_true e))]
theorem p_stopL {I : zTI} {J : zTJ} {x : Int32} {nr : Nat} (hn : nr ≤ 6) (s3 : I 10 3 = nI nr) : ∀ d k, k + d = nr → qm_stop_84 x (zset (fun k => decide (I 10 (144 + 5 * k + 0) = x)) k) (nI k) I J = some (some (.int (zset (fun k => decide (I 10 (144 + 5 * k + 0) = x)) nr)), (zSM, I, J)) := by
  intro d
  induction d with
  | zero =>
    intro k hk
    rw [t_qm_stop_84, s3, if_neg (fun q => by have := (nI_ltI (by omega) (by omega)).mp q; omega), show k = nr by omega]
  | succ d ih =>
    intro k hk
    rw [t_qm_stop_84, s3, if_pos (nI_lt (by omega) (by omega)), t_qm_readerOf, show ((144 : Int32) + 5 * nI k) + 0 = nI (144 + 5 * k + 0) from zid (c := 0) (k := 0) rfl, zif_n (by omega) (by omega), ztnn (by omega), zkI_s, ← ih (k + 1) (by omega), nI_1, z_or0]
    by_cases h : I 10 (144 + 5 * k + 0) = x
    · rw [if_pos h, show zset (fun k => decide (I 10 (144 + 5 * k + 0) = x)) (k + 1) = zset (fun k => decide (I 10 (144 + 5 * k + 0) = x)) k ||| ((1 : Int32) <<< (nI k &&& 31)) from if_pos (decide_eq_true h)]
    · rw [if_neg h, show zset (fun k => decide (I 10 (144 + 5 * k + 0) = x)) (k + 1) = zset (fun k => decide (I 10 (144 + 5 * k + 0) = x)) k from if_neg (fun e => h (of_decide_eq_true e))]
theorem p_booksAtL {w c : Nat} (hwc : zwc w c) {σ : zSg} {I : zTI} {J : zTJ} {x : Int32} {nk : Nat} (hn : nk ≤ 12) (c1 : I c 85 = nI nk) : ∀ d k, k + d = nk → qw_booksAt_4 w x (zset (fun k => decide (I c (47 + k) = x)) k) (nI k) σ I J = some (some (.int (zset (fun k => decide (I c (47 + k) = x)) nk)), (zSC σ, I, J)) := by
  intro d
  induction d with
  | zero =>
    intro k hk
    rw [t_qw_booksAt_4 w _ _ _ c hwc, c1, if_neg (fun q => by have := (nI_ltI (by omega) (by omega)).mp q; omega), show k = nk by omega]
  | succ d ih =>
    intro k hk
    rw [t_qw_booksAt_4 w _ _ _ c hwc, c1, if_pos (nI_lt (by omega) (by omega)), zif_k (y := 47) (a := 47) rfl (by omega) (by omega), ztn_k (y := 47) (a := 47) rfl (by omega), ← ih (k + 1) (by omega), nI_1]
    by_cases h : I c (47 + k) = x
    · rw [if_pos h, show zset (fun k => decide (I c (47 + k) = x)) (k + 1) = zset (fun k => decide (I c (47 + k) = x)) k ||| ((1 : Int32) <<< (nI k &&& 31)) from if_pos (decide_eq_true h)]
    · rw [if_neg h, show zset (fun k => decide (I c (47 + k) = x)) (k + 1) = zset (fun k => decide (I c (47 + k) = x)) k from if_neg (fun e => h (of_decide_eq_true e))]
theorem p_readersAtL {w c : Nat} (hwc : zwc w c) {σ : zSg} {I : zTI} {J : zTJ} {x : Int32} {nr : Nat} (hn : nr ≤ 6) (c3 : I c 87 = nI nr) : ∀ d k, k + d = nr → qw_readersAt_4 w x (zset (fun k => decide (I c (153 + k) = x)) k) (nI k) σ I J = some (some (.int (zset (fun k => decide (I c (153 + k) = x)) nr)), (zSC σ, I, J)) := by
  intro d
  induction d with
  | zero =>
    intro k hk
    rw [t_qw_readersAt_4 w _ _ _ c hwc, c3, if_neg (fun q => by have := (nI_ltI (by omega) (by omega)).mp q; omega), show k = nr by omega]
  | succ d ih =>
    intro k hk
    rw [t_qw_readersAt_4 w _ _ _ c hwc, c3, if_pos (nI_lt (by omega) (by omega)), zif_k (y := 153) (a := 153) rfl (by omega) (by omega), ztn_k (y := 153) (a := 153) rfl (by omega), ← ih (k + 1) (by omega), nI_1]
    by_cases h : I c (153 + k) = x
    · rw [if_pos h, show zset (fun k => decide (I c (153 + k) = x)) (k + 1) = zset (fun k => decide (I c (153 + k) = x)) k ||| ((1 : Int32) <<< (nI k &&& 31)) from if_pos (decide_eq_true h)]
    · rw [if_neg h, show zset (fun k => decide (I c (153 + k) = x)) (k + 1) = zset (fun k => decide (I c (153 + k) = x)) k from if_neg (fun e => h (of_decide_eq_true e))]
theorem zset_congr {p q : Nat → Bool} : ∀ n, (∀ k, k < n → p k = q k) → zset p n = zset q n
  | 0, _ => rfl
  | n + 1, h => by
    unfold zset
    rw [h n (by omega), zset_congr n (fun k hk => h k (by omega))]
set_option maxHeartbeats 2000000 in
theorem o_stop {nb nk ns nr nh : Nat} {σ : zSg} {I I' : zTI} {J J' : zTJ} (W : zWR nb nk ns nr nh (I 3) (I' 10)) (B : zWB nb nk (I' 10)) {d : Nat} (D : zDay (I' 10) d) (hin : I' 0 23 = 0) (x1 x2 : Int32) : ∃ r, qb_stop x1 x2 σ I J = some (some (.int r), (zSC σ, I, J)) ∧ qm_stop x1 x2 I' J' = some (some (.int r), (zSM, I', J')) := by
  obtain ⟨⟨h0, h1, h2, h3, -⟩, ⟨s0, s1, s2, s3, -⟩, ⟨c0, c1, c2, c3, -⟩, e0, -, hK, hS, hR, -⟩ := id W
  have hd : d < 2 ^ 31 := by have := D.2; omega
  rw [t_qb_stop, t_qm_stop, t_qw_hasStop 2 x1 3 w2, t_qm_isStop, s2, c2]
  rcases zcase x1 ns (by omega) with ⟨s, hs, rfl⟩ | h | ⟨h, h'⟩
  · have hk0 := znn (show s < 2 ^ 31 by omega)
    have hk1 := nI_lt hs (show ns < 2 ^ 31 by omega)
    simp only [if_neg hk0, if_pos hk1, zkI_s, p_in (x := x2) (hi := 4) 4 rfl]
    rw [if_neg (show ¬ (1 : Int32) = 0 by decide), if_neg (show ¬ (1 : Int32) = 0 by decide)]
    obtain ⟨n, n1, n4, en, hj⟩ := hS s hs
    have pass : ∀ b (x : Int32), x = nI b → ∃ r, (qb_passing x (nI s) σ I J = some (some (.int r), (zSC σ, I, J))) ∧ (zkI (qm_isBarge x I' J') zSM fun r15 I13 J14 => if r15 = 0 then some (some (.int (-1)), (zSM, I13, J14)) else zkI (qm_passesNow x (nI s) I13 J14) zSM fun r18 I16 J17 => if r18 = 0 then some (some (.int 0), (zSM, I16, J17)) else some (some (.int 1), (zSM, I16, J17))) = some (some (.int r), (zSM, I', J')) := by
      intro b x e
      subst e
      rw [t_qb_passing, t_qw_hasBarge 2 _ 3 w2, t_qm_isBarge, s0, c0]
      rcases zcase (nI b) nb (by omega) with ⟨b', hb, e⟩ | h | ⟨h, h'⟩
      · rw [e]
        obtain ⟨g2, g3⟩ := B.1 b' hb
        rw [if_neg (znn (by omega)), if_pos (nI_lt hb (by omega)), zkI_s, if_neg (by decide), if_neg (znn (by omega)), if_pos (nI_lt hb (by omega)), zkI_s, if_neg (by decide), p_passesW W B D hb hs hj, zkI_s, p_passesNow (by omega) hd D.1 n1 n4 en (by omega) h1 s1 (fun e => g2 (by rw [e]; decide)) (fun e => g3 (by rw [e]; decide)), zkI_s, hin, z_add0]
        split
        · exact ⟨_, rfl, rfl⟩
        · exact ⟨_, rfl, rfl⟩
      · simp only [if_pos h, zkI_s]
        exact ⟨_, rfl, rfl⟩
      · simp only [if_neg h, if_neg h', zkI_s]
        exact ⟨_, rfl, rfl⟩
    rcases zwhat x2 4 (by omega) with ⟨j, hj', rfl⟩ | q
    · rw [if_pos (zrange hj' (by omega)), if_neg (show ¬ (1 : Int32) = 0 by decide)]
      rcases (show j = 0 ∨ j = 1 ∨ j = 2 ∨ j = 3 ∨ j = 4 by omega) with rfl | rfl | rfl | rfl | rfl
      · refine ⟨I' 10 (104 + 5 * s + 1 + min (d / 90 % 4) (n - 1)), ?_, ?_⟩
        · rw [if_pos (by decide), p_depthOfW w2 hs h2 c2 hd (e0.trans D.1), zkI_s, hj _ (Nat.mod_lt _ (by decide))]
        · rw [if_pos (by decide), p_depthOf (by omega) hd D.1 n1 n4 en, zkI_s, hin, z_add0]
      · refine ⟨zset (fun k => decide (I' 10 (20 + 7 * k + 4) = nI s)) nk, ?_, ?_⟩
        · rw [if_neg (by decide), if_pos (by decide), t_qw_booksAt 2 _ 3 w2, show qw_booksAt_4 2 (nI s) 0 0 σ I J = _ from p_booksAtL w2 h1 c1 nk 0 (by omega), zkI_s, zset_congr nk (fun k hk => by rw [(hK k hk).2.2.2.2.1])]
        · rw [if_neg (by decide), if_pos (by decide), t_qm_leftAt, show qm_leftAt_4 (nI s) 0 0 I' J' = _ from p_leftL h1 s1 nk 0 (by omega), zkI_s]
      · obtain ⟨r, r1, r2⟩ := pass 0 0 rfl
        refine ⟨r, ?_, ?_⟩
        · rw [if_neg (by decide), if_neg (by decide), if_pos (by decide), r1, zkI_s]
        · rw [if_neg (by decide), if_neg (by decide), if_pos (by decide), show nI 2 - 2 = (0 : Int32) from by decide]
          exact r2
      · obtain ⟨r, r1, r2⟩ := pass 1 1 rfl
        refine ⟨r, ?_, ?_⟩
        · rw [if_neg (by decide), if_neg (by decide), if_neg (by decide), if_pos (by decide), r1, zkI_s]
        · rw [if_neg (by decide), if_neg (by decide), if_pos (by decide), show nI 3 - 2 = (1 : Int32) from by decide]
          exact r2
      · refine ⟨zset (fun k => decide (I' 10 (144 + 5 * k + 0) = nI s)) nr, ?_, ?_⟩
        · rw [if_neg (by decide), if_neg (by decide), if_neg (by decide), if_neg (by decide), if_pos (by decide), t_qw_readersAt 2 _ 3 w2, show qw_readersAt_4 2 (nI s) 0 0 σ I J = _ from p_readersAtL w2 h3 c3 nr 0 (by omega), zkI_s, zset_congr nr (fun k hk => by rw [(hR k hk).1])]
        · rw [if_neg (by decide), if_neg (by decide), if_neg (by decide), show qm_stop_84 (nI s) 0 0 I' J' = _ from p_stopL h3 s3 nr 0 (by omega)]
    · rw [if_neg q, if_pos rfl]
      refine ⟨_, ?_, rfl⟩
      rw [if_neg (fun e => q (by subst e; decide)), if_neg (fun e => q (by subst e; decide)), if_neg (fun e => q (by subst e; decide)), if_neg (fun e => q (by subst e; decide)), if_neg (fun e => q (by subst e; decide))]
  · simp only [if_pos h, zkI_s]
    exact ⟨_, rfl, rfl⟩
  · simp only [if_neg h, if_neg h', zkI_s]
    exact ⟨_, rfl, rfl⟩
