/-! ===== tilt, draught ===== -/
def zsh (S : Nat → Int32) (b k : Nat) : Int32 := if S (20 + 7 * k + 3) < S (6 + 7 * b + 0) then S (20 + 7 * k + 3) else S (6 + 7 * b + 0) - 1
def ztl (S : Nat → Int32) (b k : Nat) : Int32 := zhv S k * (((2 * zsh S b k) - S (6 + 7 * b + 0)) + 1)
theorem p_shelfIn {I : zTI} {J : zTJ} {k b : Nat} (hk : k < 12) (hb : b < 2) : qm_shelfIn (nI k) (nI b) I J = some (some (.int (zsh (I 10) b k)), (zSM, I, J)) := by
  rw [t_qm_shelfIn, p_bookOf (y := 3) (j := 3) rfl hk (by omega), zkI_s, p_bargeOf (y := 0) (j := 0) rfl hb (by omega), zkI_s]
  unfold zsh
  by_cases h : I 10 (20 + 7 * k + 3) < I 10 (6 + 7 * b + 0)
  · rw [if_pos h, if_pos h, p_bookOf (y := 3) (j := 3) rfl hk (by omega), zkI_s]
  · rw [if_neg h, if_neg h, p_bargeOf (y := 0) (j := 0) rfl hb (by omega), zkI_s]
theorem p_arm {I : zTI} {J : zTJ} {b : Nat} {x : Int32} (hb : b < 2) : qm_arm x (nI b) I J = some (some (.int (((2 * x) - I 10 (6 + 7 * b + 0)) + 1)), (zSM, I, J)) := by
  rw [t_qm_arm, p_bargeOf (y := 0) (j := 0) rfl hb (by omega), zkI_s]
theorem p_tiltL {I : zTI} {J : zTJ} {nk b : Nat} {set a : Int32} (hb : b < 2) (hn : nk ≤ 12) (s1 : I 10 1 = nI nk) : ∀ d k, k + d = nk → qm_tiltBy_5 (nI b) set (zsum (ztl (I 10) b) (bt set) a k) (nI k) I J = some (some (.int (zsum (ztl (I 10) b) (bt set) a nk)), (zSM, I, J)) := by
  intro d
  induction d with
  | zero =>
    intro k hk
    rw [t_qm_tiltBy_5, s1, if_neg (fun q => by have := (nI_ltI (by omega) (by omega)).mp q; omega), show k = nk by omega]
  | succ d ih =>
    intro k hk
    rw [t_qm_tiltBy_5, s1, if_pos (nI_lt (by omega) (by omega)), p_isOf (by omega), zkI_s, ← ih (k + 1) (by omega), nI_1]
    by_cases h : bt set k = true
    · rw [if_pos h, if_neg (by decide), p_heavy (by omega), zkI_s, p_shelfIn (by omega) hb, zkI_s, p_arm hb, zkI_s, show zsum (ztl (I 10) b) (bt set) a (k + 1) = zsum (ztl (I 10) b) (bt set) a k + ztl (I 10) b k from if_pos h]
      rfl
    · rw [if_neg h, if_pos rfl, z_add0, show zsum (ztl (I 10) b) (bt set) a (k + 1) = zsum (ztl (I 10) b) (bt set) a k from if_neg h]
theorem p_tiltBy {I : zTI} {J : zTJ} {nk b : Nat} {set : Int32} (hb : b < 2) (hn : nk ≤ 12) (s1 : I 10 1 = nI nk) : qm_tiltBy (nI b) set I J = some (some (.int (zsum (ztl (I 10) b) (bt set) 0 nk)), (zSM, I, J)) := by
  rw [t_qm_tiltBy]
  exact p_tiltL hb hn s1 nk 0 (by omega)
def zdr (load tilt stone lean : Int32) : Int32 := ((load + stone - 1) / stone) + ((if tilt < 0 then -tilt else tilt) / lean)
theorem p_draughtOf {I : zTI} {J : zTJ} {b : Nat} {x y : Int32} (hb : b < 2) (h2 : ¬ I 10 (6 + 7 * b + 2) = 0) (h3 : ¬ I 10 (6 + 7 * b + 3) = 0) : qm_draughtOf (nI b) x y I J = some (some (.int (zdr x y (I 10 (6 + 7 * b + 2)) (I 10 (6 + 7 * b + 3)))), (zSM, I, J)) := by
  rw [t_qm_draughtOf, p_bargeOf (y := 2) (j := 2) rfl hb (by omega), zkI_s, if_neg h2, p_bargeOf (y := 3) (j := 3) rfl hb (by omega), zkI_s, if_neg h3, zkI_s, if_neg h3]
  unfold zdr
  by_cases h : y < 0
  · rw [if_pos h, if_pos h]
  · rw [if_neg h, if_neg h]
def zload (S : Nat → Int32) (nk b : Nat) (set : Int32) : Int32 := zsum (zhv S) (bt set) (S (6 + 7 * b + 1) + S (6 + 7 * b + 4)) nk
def ztilt (S : Nat → Int32) (nk b : Nat) (set : Int32) : Int32 := zsum (ztl S b) (bt set) 0 nk
def zdrB (S : Nat → Int32) (nk b : Nat) (set : Int32) : Int32 := zdr (zload S nk b set) (ztilt S nk b set) (S (6 + 7 * b + 2)) (S (6 + 7 * b + 3))
theorem p_draughtBy {I : zTI} {J : zTJ} {nk b : Nat} {set : Int32} (hb : b < 2) (hn : nk ≤ 12) (s1 : I 10 1 = nI nk) (h2 : ¬ I 10 (6 + 7 * b + 2) = 0) (h3 : ¬ I 10 (6 + 7 * b + 3) = 0) : qm_draughtBy (nI b) set I J = some (some (.int (zdrB (I 10) nk b set)), (zSM, I, J)) := by
  rw [t_qm_draughtBy, p_loadBy hb hn s1, zkI_s, p_tiltBy hb hn s1, zkI_s, p_draughtOf hb h2 h3, zkI_s]
  rfl
theorem p_draughtNow {I : zTI} {J : zTJ} {nk b : Nat} (hb : b < 2) (hn : nk ≤ 12) (s1 : I 10 1 = nI nk) (h2 : ¬ I 10 (6 + 7 * b + 2) = 0) (h3 : ¬ I 10 (6 + 7 * b + 3) = 0) : qm_draughtNow (nI b) I J = some (some (.int (zdrB (I 10) nk b (zset (zab (I 10) b) nk))), (zSM, I, J)) := by
  rw [t_qm_draughtNow, p_aboardOf hn s1, zkI_s, p_draughtBy hb hn s1 h2 h3, zkI_s]
/-- the class's -/
def ztw (C : Nat → Int32) (b k : Nat) : Int32 := zhw C k * ((2 * C (23 + k)) - (C (89 + b) - 1))
theorem p_tiltOfL {w c : Nat} (hwc : zwc w c) {σ : zSg} {I : zTI} {J : zTJ} {b nk : Nat} {a : Int32} (hn : nk ≤ 12) (c1 : I c 85 = nI nk) : ∀ d k, k + d = nk → qw_tiltOf_15 w (nI b) (zsum (ztw (I c) b) (zaw (I c) b) a k) (I c (89 + b) - 1) (nI k) σ I J = some (some (.int (zsum (ztw (I c) b) (zaw (I c) b) a nk)), (zSC σ, I, J)) := by
  intro d
  induction d with
  | zero =>
    intro k hk
    rw [t_qw_tiltOf_15 w _ _ _ _ c hwc, c1, if_neg (fun q => by have := (nI_ltI (by omega) (by omega)).mp q; omega), show k = nk by omega]
  | succ d ih =>
    intro k hk
    rw [t_qw_tiltOf_15 w _ _ _ _ c hwc, c1, if_pos (nI_lt (by omega) (by omega)), zif_k (y := 47) (a := 47) rfl (by omega) (by omega), ztn_k (y := 47) (a := 47) rfl (by omega), zif_k (y := 97) (a := 97) rfl (by omega) (by omega), zif_k (y := 35) (a := 35) rfl (by omega) (by omega), zif_k (y := 23) (a := 23) rfl (by omega) (by omega), ztn_k (y := 97) (a := 97) rfl (by omega), ztn_k (y := 35) (a := 35) rfl (by omega), ztn_k (y := 23) (a := 23) rfl (by omega), ← ih (k + 1) (by omega), nI_1]
    by_cases h : I c (47 + k) = 100 + nI b
    · rw [if_pos h, show zsum (ztw (I c) b) (zaw (I c) b) a (k + 1) = zsum (ztw (I c) b) (zaw (I c) b) a k + ztw (I c) b k from if_pos (decide_eq_true h)]
      rfl
    · rw [if_neg h, show zsum (ztw (I c) b) (zaw (I c) b) a (k + 1) = zsum (ztw (I c) b) (zaw (I c) b) a k from if_neg (by unfold zaw; rw [decide_eq_false h]; decide)]
theorem p_tiltOf {w c : Nat} (hwc : zwc w c) {σ : zSg} {I : zTI} {J : zTJ} {b nk : Nat} (hb : b < 2) (hn : nk ≤ 12) (c1 : I c 85 = nI nk) : qw_tiltOf w (nI b) σ I J = some (some (.int (zsum (ztw (I c) b) (zaw (I c) b) 0 nk)), (zSC σ, I, J)) := by
  rw [t_qw_tiltOf w _ c hwc, p_cellk hwc (y := 89) (a := 89) rfl (by omega), zkI_s]
  exact p_tiltOfL hwc hn c1 nk 0 (by omega)
theorem z_abs (t : Int32) : (if 0 ≤ t then t else 0 - t) = if t < 0 then -t else t := by
  by_cases h : t < 0
  · rw [if_pos h, if_neg (Int32.not_le.mpr h), Int32.zero_sub]
  · rw [if_neg h, if_pos (Int32.not_lt.mp h)]
theorem p_draughtByW {w c : Nat} (hwc : zwc w c) {σ : zSg} {I : zTI} {J : zTJ} {x0 x1 x2 x3 : Int32} (h2 : ¬ x2 < 1) (h3 : ¬ x3 < 1) : qw_draughtBy x0 x1 x2 x3 σ I J = some (some (.int (zdr x0 x1 x2 x3)), (zSC σ, I, J)) := by
  rw [t_qw_draughtBy x0 x1 x2 x3 w c hwc, if_neg h2, if_neg h3, if_neg (fun e => h2 (by subst e; decide)), if_neg (fun e => h3 (by subst e; decide)), z_abs]
  rfl
theorem p_draughtOfW {w c : Nat} (hwc : zwc w c) {σ : zSg} {I : zTI} {J : zTJ} {b nk : Nat} (hb : b < 2) (hn : nk ≤ 12) (c1 : I c 85 = nI nk) (h2 : ¬ I c (93 + b) < 1) (h3 : ¬ I c (95 + b) < 1) : qw_draughtOf w (nI b) σ I J = some (some (.int (zdr (zsum (zhw (I c)) (zaw (I c) b) (I c (91 + b) + I c (3 + b)) nk) (zsum (ztw (I c) b) (zaw (I c) b) 0 nk) (I c (93 + b)) (I c (95 + b)))), (zSC σ, I, J)) := by
  rw [t_qw_draughtOf w _ c hwc, p_loadOf hwc hb hn c1, zkI_s, p_tiltOf hwc hb hn c1, zkI_s, p_cellk hwc (y := 93) (a := 93) rfl (by omega), zkI_s, p_cellk hwc (y := 95) (a := 95) rfl (by omega), zkI_s, p_draughtByW hwc h2 h3, zkI_s]
/-- bounds of what is told -/
def zWB (nb nk : Nat) (S : Nat → Int32) : Prop := (∀ b, b < nb → ¬ S (6 + 7 * b + 2) < 1 ∧ ¬ S (6 + 7 * b + 3) < 1) ∧ (∀ b k, b < nb → k < nk → S (20 + 7 * k + 4) = 100 + nI b → S (20 + 7 * k + 3) < S (6 + 7 * b + 0))
theorem z_loads {nb nk ns nr nh : Nat} {C S : Nat → Int32} (W : zWR nb nk ns nr nh C S) {b : Nat} (hb : b < nb) : zsum (zhw C) (zaw C b) (C (91 + b) + C (3 + b)) nk = zload S nk b (zset (zab S b) nk) := by
  obtain ⟨⟨h0, h1, -, -, -⟩, -, -, -, hB, hK, -⟩ := W
  obtain ⟨-, b1, -, -, b4, -⟩ := hB b hb
  rw [b1, b4]
  refine zsum_congr nk fun k hk => ?_
  obtain ⟨k0, -, k2, -, k4, -⟩ := hK k hk
  refine ⟨?_, fun _ => ?_⟩
  · rw [b_zset _ nk (by omega) k (by omega), decide_eq_true hk, Bool.true_and]
    unfold zaw zab
    rw [k4]
  · unfold zhw zhv
    rw [k0, k2]
theorem z_tilts {nb nk ns nr nh : Nat} {C S : Nat → Int32} (W : zWR nb nk ns nr nh C S) (B : zWB nb nk S) {b : Nat} (hb : b < nb) : zsum (ztw C b) (zaw C b) 0 nk = ztilt S nk b (zset (zab S b) nk) := by
  obtain ⟨⟨h0, h1, -, -, -⟩, -, -, -, hB, hK, -⟩ := W
  obtain ⟨b0, -⟩ := hB b hb
  refine zsum_congr nk fun k hk => ?_
  obtain ⟨k0, -, k2, k3, k4, -⟩ := hK k hk
  refine ⟨?_, fun q => ?_⟩
  · rw [b_zset _ nk (by omega) k (by omega), decide_eq_true hk, Bool.true_and]
    unfold zaw zab
    rw [k4]
  · have q1 : C (47 + k) = 100 + nI b := of_decide_eq_true q
    rw [k4] at q1
    unfold ztw ztl zhw zhv zsh
    rw [k0, k2, k3, b0, if_pos (B.2 b k hb hk q1), z_arm]
theorem z_draughts {nb nk ns nr nh : Nat} {C S : Nat → Int32} (W : zWR nb nk ns nr nh C S) (B : zWB nb nk S) {b : Nat} (hb : b < nb) : zdr (zsum (zhw C) (zaw C b) (C (91 + b) + C (3 + b)) nk) (zsum (ztw C b) (zaw C b) 0 nk) (C (93 + b)) (C (95 + b)) = zdrB S nk b (zset (zab S b) nk) := by
  rw [z_loads W hb, z_tilts W B hb]
  obtain ⟨-, -, -, -, hB, -⟩ := W
  obtain ⟨-, -, b2, b3, -⟩ := hB b hb
  rw [b2, b3]
  rfl
set_option maxHeartbeats 2000000 in
theorem o_lies {nb nk ns nr nh : Nat} {σ : zSg} {I I' : zTI} {J J' : zTJ} (W : zWR nb nk ns nr nh (I 3) (I' 10)) (B : zWB nb nk (I' 10)) (x1 x2 : Int32) : ∃ r, qb_lies x1 x2 σ I J = some (some (.int r), (zSC σ, I, J)) ∧ qm_lies x1 x2 I' J' = some (some (.int r), (zSM, I', J')) := by
  obtain ⟨⟨h0, h1, -, -, -⟩, ⟨s0, s1, -, -, -⟩, ⟨c0, c1, -, -, -⟩, -, hB, -⟩ := id W
  rw [t_qb_lies, t_qm_lies, t_qw_hasBarge 2 x1 3 w2, t_qm_isBarge, s0, c0]
  rcases zcase x1 nb (by omega) with ⟨b, hb, rfl⟩ | h | ⟨h, h'⟩
  · have hk0 := znn (show b < 2 ^ 31 by omega)
    have hk1 := nI_lt hb (show nb < 2 ^ 31 by omega)
    have hb2 : b < 2 := by omega
    simp only [if_neg hk0, if_pos hk1, zkI_s, p_in (x := x2) (hi := 6) 6 rfl]
    rw [if_neg (show ¬ (1 : Int32) = 0 by decide), if_neg (show ¬ (1 : Int32) = 0 by decide)]
    obtain ⟨b0, b1, b2, b3, b4, b5, b6⟩ := hB b hb
    obtain ⟨g2, g3⟩ := B.1 b hb
    have n2 : ¬ I' 10 (6 + 7 * b + 2) = 0 := fun e => g2 (by rw [e]; decide)
    have n3 : ¬ I' 10 (6 + 7 * b + 3) = 0 := fun e => g3 (by rw [e]; decide)
    rcases zwhat x2 6 (by omega) with ⟨j, hj, rfl⟩ | q
    · rw [if_pos (zrange hj (by omega)), if_neg (show ¬ (1 : Int32) = 0 by decide)]
      rcases (show j = 0 ∨ j = 1 ∨ j = 2 ∨ j = 3 ∨ j = 4 ∨ j = 5 ∨ j = 6 by omega) with rfl | rfl | rfl | rfl | rfl | rfl | rfl
      · refine ⟨zload (I' 10) nk b (zset (zab (I' 10) b) nk), ?_, ?_⟩
        rotate_left
        · rw [if_pos (by decide), p_aboardOf h1 s1, zkI_s, p_loadBy hb2 h1 s1, zkI_s]
          rfl
        · rw [if_pos (by decide), p_loadOf w2 hb2 h1 c1, zkI_s, z_loads W hb]
      · refine ⟨ztilt (I' 10) nk b (zset (zab (I' 10) b) nk), ?_, ?_⟩
        rotate_left
        · rw [if_neg (by decide), if_pos (by decide), p_aboardOf h1 s1, zkI_s, p_tiltBy hb2 h1 s1, zkI_s]
          rfl
        · rw [if_neg (by decide), if_pos (by decide), p_tiltOf w2 hb2 h1 c1, zkI_s, z_tilts W B hb]
      · refine ⟨zdrB (I' 10) nk b (zset (zab (I' 10) b) nk), ?_, ?_⟩
        rotate_left
        · rw [if_neg (by decide), if_neg (by decide), if_pos (by decide), p_draughtNow hb2 h1 s1 n2 n3, zkI_s]
        · rw [if_neg (by decide), if_neg (by decide), if_pos (by decide), p_draughtOfW w2 hb2 h1 c1 (by rw [b2]; exact g2) (by rw [b3]; exact g3), zkI_s, z_draughts W B hb]
      · refine ⟨I' 10 (6 + 7 * b + 4), ?_, ?_⟩
        rotate_left
        · rw [if_neg (by decide), if_neg (by decide), if_neg (by decide), if_pos (by decide), p_bargeOf (y := 4) (j := 4) rfl hb2 (by omega), zkI_s]
        · rw [if_neg (by decide), if_neg (by decide), if_neg (by decide), if_pos (by decide), p_cellk w2 (y := 3) (a := 3) rfl (by omega), zkI_s, b4]
      · refine ⟨I' 10 (6 + 7 * b + 5), ?_, ?_⟩
        rotate_left
        · rw [if_neg (by decide), if_neg (by decide), if_neg (by decide), if_neg (by decide), if_pos (by decide), t_qm_stopOf, p_bargeOf (y := 5) (j := 5) rfl hb2 (by omega), zkI_s, zkI_s]
        · rw [if_neg (by decide), if_neg (by decide), if_neg (by decide), if_neg (by decide), if_pos (by decide), p_cellk w2 (y := 1) (a := 1) rfl (by omega), zkI_s, b5]
      · refine ⟨I' 10 (6 + 7 * b + 6), ?_, ?_⟩
        rotate_left
        · rw [if_neg (by decide), if_neg (by decide), if_neg (by decide), if_neg (by decide), if_neg (by decide), if_pos (by decide), p_bargeOf (y := 6) (j := 6) rfl hb2 (by omega), zkI_s]
        · rw [if_neg (by decide), if_neg (by decide), if_neg (by decide), if_neg (by decide), if_neg (by decide), if_pos (by decide), p_cellk w2 (y := 5) (a := 5) rfl (by omega), zkI_s, b6]
      · refine ⟨I' 10 (6 + 7 * b + 0), ?_, ?_⟩
        rotate_left
        · rw [if_neg (by decide), if_neg (by decide), if_neg (by decide), if_neg (by decide), if_neg (by decide), if_neg (by decide), p_bargeOf (y := 0) (j := 0) rfl hb2 (by omega), zkI_s]
        · rw [if_neg (by decide), if_neg (by decide), if_neg (by decide), if_neg (by decide), if_neg (by decide), if_neg (by decide), if_pos (by decide), p_cellk w2 (y := 89) (a := 89) rfl (by omega), zkI_s, b0]
    · rw [if_neg q, if_pos rfl]
      refine ⟨_, ?_, rfl⟩
      rw [if_neg (fun e => q (by subst e; decide)), if_neg (fun e => q (by subst e; decide)), if_neg (fun e => q (by subst e; decide)), if_neg (fun e => q (by subst e; decide)), if_neg (fun e => q (by subst e; decide)), if_neg (fun e => q (by subst e; decide)), if_neg (fun e => q (by subst e; decide))]
  · simp only [if_pos h, zkI_s]
    exact ⟨_, rfl, rfl⟩
  · simp only [if_neg h, if_neg h', zkI_s]
    exact ⟨_, rfl, rfl⟩
