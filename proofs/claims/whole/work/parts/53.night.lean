/-! ===== night, rain ===== -/
theorem z_min99 (a b : Nat) (ha : a ≤ 9999) (hb : b ≤ 99) : (if nI a + nI b < 9999 then nI a + nI b else 9999) = nI (min 9999 (a + b)) ∧ (if (9999 : Int32) < nI a + nI b then (9999 : Int32) else nI a + nI b) = nI (min 9999 (a + b)) := by
  rw [nI_add]
  by_cases q : a + b < 9999
  · rw [if_pos (show nI (a + b) < (9999 : Int32) from nI_lt (b := 9999) q (by decide)), if_neg (show ¬ (9999 : Int32) < nI (a + b) from fun h => by have := (nI_ltI (a := 9999) (by decide) (by omega)).mp h; omega), show min 9999 (a + b) = a + b by omega]
    exact ⟨rfl, rfl⟩
  · rw [if_neg (show ¬ nI (a + b) < (9999 : Int32) from fun h => by have := (nI_ltI (b := 9999) (by omega) (by decide)).mp h; omega)]
    refine ⟨by rw [show min 9999 (a + b) = 9999 by omega]; rfl, ?_⟩
    by_cases q2 : a + b = 9999
    · rw [q2]; decide
    · rw [if_pos (show (9999 : Int32) < nI (a + b) from nI_lt (a := 9999) (by omega) (by omega)), show min 9999 (a + b) = 9999 by omega]
      rfl
theorem p_nightL {w c : Nat} (hwc : zwc w c) {nb nk ns nr nh : Nat} {σ : zSg} {J J' : zTJ} : ∀ (d h : Nat) (I I' : zTI), h + d = nh → zGood nb nk ns nr nh (I c) (I' 10) → ∃ C' S', qw_passNight_22 w (nI h) σ I J = some (none, (zSC σ, zrI I c C', J)) ∧ qm_nights_24 (nI h) I' J' = some (none, (zSM, zrI I' 10 S', J')) ∧ zGood nb nk ns nr nh C' S' ∧ (∀ k, 83 ≤ k → C' k = I c k) ∧ S' 5 = I' 10 5 := by
  intro d
  induction d with
  | zero =>
    intro h I I' e G
    obtain ⟨⟨n0, n1, n2, n3, n4⟩, ⟨s0, s1, s2, s3, s4⟩, ⟨c0, c1, c2, c3, c4⟩, -⟩ := id G.1
    have q : ¬ nI h < nI nh := fun q => by have := (nI_ltI (by omega) (by omega)).mp q; omega
    rw [t_qw_passNight_22 w _ c hwc, t_qm_nights_24, c4, s4, if_neg q, if_neg q]
    exact ⟨I c, I' 10, by rw [zrI_id rfl], by rw [zrI_id rfl], G, fun _ _ => rfl, rfl⟩
  | succ d ih =>
    intro h I I' e G
    obtain ⟨⟨n0, n1, n2, n3, n4⟩, ⟨s0, s1, s2, s3, s4⟩, ⟨c0, c1, c2, c3, c4⟩, cD, hB, hK, -, hR, hH⟩ := id G.1
    have hh : h < nh := by omega
    have q : nI h < nI nh := nI_lt hh (by omega)
    obtain ⟨h0, h1, h2⟩ := hH h hh
    obtain ⟨b, hb, eb⟩ := zk_h0 G.1.ns G.2.1 hh
    obtain ⟨v, v1, v2, ev⟩ := zk_h1 G.1.ns G.2.1 hh
    obtain ⟨-, -, -, -, b4, -⟩ := hB b hb
    obtain ⟨a, ha, ea⟩ := zk_g4 G.1.ns G.2.1 hb
    rw [t_qw_passNight_22 w _ c hwc, t_qm_nights_24, c4, s4, if_pos q, if_pos q, zy243, zif_n (by omega) (by omega), ztnn (by omega), p_isOpen hwc G hh, zkI_s, ph0 (by omega), zkI_s, ph2 (by omega), zkI_s, h0, eb, nI_1]
    rcases zk_h2 G.1.ns G.2.1 hh with e2 | e2
    · rw [e2, if_pos rfl, if_neg z10, r1Barge hwc c0 n0 hb, zkI_s, if_neg z10, zy3, zif_n (by omega) (by omega), zy247, zif_n (by omega) (by omega), zif_n (by omega) (by omega), ztnn (by omega), ztnn (by omega), b4, ea, h1, ev, (z_min99 a v ha v2).1, if_pos rfl]
      simp only [zxg4]
      rw [zif_n (by omega) (by omega), ph1 (by omega), zkI_s, ev, zif_n (by omega) (by omega), zif_n (by omega) (by omega), ztnn (by omega), ph1 (by omega), zkI_s, zif_n (by omega) (by omega), ev, ea]
      have em := (z_min99 a v ha v2).2
      have G1 : zGood nb nk ns nr nh (zrI I c (upd (I c) (3 + b) (nI (min 9999 (a + v)))) c) (zrI I' 10 (upd (I' 10) (6 + 7 * b + 4) (nI (min 9999 (a + v)))) 10) := by
        rw [zrI_row, zrI_row]
        exact zGood_upd G (Or.inr (Or.inl ⟨b, hb, by omega⟩)) (zBd_water G.1.ns hb ⟨_, by omega, rfl⟩) (zAb_no G.2.2.1 n0 n1 (fun _ _ => by omega) (fun _ _ => by omega))
      obtain ⟨C', S', f1, f2, f3, f4, f5⟩ := ih (h + 1) _ _ (by omega) G1
      rw [zsI_zrI, f1]
      have fin : ∃ S'', qm_nights_24 (nI (h + 1)) (zrI I' 10 (upd (I' 10) (6 + 7 * b + 4) (nI (min 9999 (a + v))))) J' = some (none, (zSM, zrI I' 10 S'', J')) ∧ S'' = S' := ⟨_, by rw [f2, zrI_zrI], rfl⟩
      obtain ⟨S'', f2', rfl⟩ := fin
      refine ⟨C', S'', by rw [zrI_zrI], ?_, f3, fun k hk => ?_, ?_⟩
      · by_cases q9 : (9999 : Int32) < nI a + nI v
        · rw [if_pos q9] at em
          rw [if_pos q9, zsI_zrI, em]
          exact f2'
        · rw [if_neg q9] at em
          rw [if_neg q9, zsI_zrI, em]
          exact f2'
      · rw [f4 k hk, zrI_row, u_no (by omega)]
      · rw [f5, zrI_row, u_no (by omega)]
    · rw [e2, if_neg z10, if_pos rfl, if_neg z10]
      exact ih (h + 1) I I' (by omega) G
theorem p_nightG {w c : Nat} (hwc : zwc w c) {nb nk ns nr nh : Nat} {σ : zSg} {I I' : zTI} {J J' : zTJ} (G : zGood nb nk ns nr nh (I c) (I' 10)) : ∃ C' S', qw_passNight w σ I J = some (none, (zSC σ, zrI I c C', J)) ∧ qm_nights I' J' = some (none, (zSM, zrI I' 10 S', J')) ∧ zGood nb nk ns nr nh C' S' ∧ ∀ k, 83 ≤ k → C' k = I c k := by
  obtain ⟨⟨n0, n1, n2, n3, n4⟩, ⟨s0, s1, s2, s3, s4⟩, ⟨c0, c1, c2, c3, c4⟩, cD, hB, hK, -, hR, hH⟩ := id G.1
  obtain ⟨d, hd, ed⟩ := zk_day G.2.1
  rw [t_qw_passNight w c hwc, t_qm_nights, cD, ed, nI_1]
  by_cases q : d < 9999
  · have em : (if nI (d + 1) < 9999 then nI (d + 1) else 9999) = nI (d + 1) := by
      by_cases q2 : d + 1 < 9999
      · rw [if_pos (show nI (d + 1) < (9999 : Int32) from nI_lt (b := 9999) q2 (by decide))]
      · rw [if_neg (show ¬ nI (d + 1) < (9999 : Int32) from fun h => q2 ((nI_ltI (b := 9999) (by omega) (by decide)).mp h)), show d + 1 = 9999 by omega]
        rfl
    have G1 : zGood nb nk ns nr nh (zrI I c (upd (I c) 0 (nI (d + 1))) c) (zrI I' 10 (upd (I' 10) 5 (nI (d + 1))) 10) := by
      rw [zrI_row, zrI_row]
      exact zGood_upd G (Or.inl ⟨rfl, rfl⟩) (zBd_day G.1.ns ⟨_, by omega, rfl⟩) (zAb_no G.2.2.1 n0 n1 (fun _ _ => by omega) (fun _ _ => by omega))
    obtain ⟨C', S', f1, f2, f3, f4, f5⟩ := p_nightL hwc (σ := σ) (J := J) (J' := J') nh 0 _ _ (by omega) G1
    rw [em, if_pos (show nI d < (9999 : Int32) from nI_lt (b := 9999) q (by decide)), zsI_zrI, zsI_zrI]
    refine ⟨C', S', ?_, ?_, f3, fun k hk => ?_⟩
    · rw [show qw_passNight_22 w 0 σ _ J = _ from f1, zrI_zrI]
    · rw [show qm_nights_24 0 _ J' = _ from f2, zrI_zrI]
    · rw [f4 k hk, zrI_row, u_no (by omega)]
  · have e9 : d = 9999 := by omega
    subst e9
    obtain ⟨C', S', f1, f2, f3, f4, f5⟩ := p_nightL hwc (σ := σ) (J := J) (J' := J') nh 0 _ _ (by omega) G
    have em : (if nI (9999 + 1) < 9999 then nI (9999 + 1) else 9999) = nI 9999 := by decide
    rw [em, if_neg (show ¬ nI 9999 < (9999 : Int32) by decide), zsI_zrI, u_id (by rw [cD, ed]), zrI_id rfl]
    exact ⟨C', S', f1, f2, f3, f4⟩
theorem o_night {nb nk ns nr nh t j u : Nat} {σ : zSg} {I I' : zTI} {J J' : zTJ} (H : zSta nb nk ns nr nh t j u I I') : zDo nb nk ns nr nh t σ I I' (qb_night σ I J) (qm_night I' J') := by
  obtain ⟨T, G, -⟩ := id H
  obtain ⟨⟨n0, n1, n2, n3, n4⟩, ⟨s0, s1, s2, s3, s4⟩, ⟨c0, c1, c2, c3, c4⟩, cD, hB, hK, -, hR, -⟩ := id G.1
  obtain ⟨d, hd, ed⟩ := zk_day G.2.1
  rw [t_qb_night, t_qm_night, pc84 w2, zkI_s, pc0 w2, zkI_s, c0, s2, cD, ed]
  by_cases q : nb = 0
  · have q' := G.2.2.2.2.mp q
    subst q
    subst q'
    rw [if_pos (show nI 0 = 0 from rfl), if_pos (show nI 0 = 0 from rfl)]
    exact zDo_same H ⟨_, rfl, rfl⟩
  · have q' : ¬ ns = 0 := fun e => q (G.2.2.2.2.mpr e)
    rw [if_neg (show ¬ nI nb = 0 from fun e => q (znI (b := 0) (by omega) (by decide) e)), if_neg (show ¬ nI ns = 0 from fun e => q' (znI (b := 0) (by omega) (by decide) e))]
    by_cases q9 : d < 9999
    · rw [if_pos (show nI d < (9999 : Int32) from nI_lt (b := 9999) q9 (by decide)), if_neg (show ¬ nI d = (9999 : Int32) from fun e => by have := znI (b := 9999) (by omega) (by decide) e; omega)]
      refine zDo_act (J := J) (J' := J') H fun I1 I1' a1 a2 a3 a4 a5 => ?_
      obtain ⟨C', S', f1, f2, f3, f4⟩ := p_nightG w2 (σ := σ) (I := I1) (I' := I1') (J := J) (J' := J') (by rw [a3, a4]; exact G)
      rw [a1, zkV_s, a2, zkV_s, f1, zkV_s, f2, zkV_s, pc0 w2, zkI_s, zrI_row, zrI_row, f3.1.2.2.2.1]
      exact ⟨_, _, _, _, _, rfl, rfl, fun k' hk' => by rw [f4 k' hk', a3], f3⟩
    · rw [if_neg (show ¬ nI d < (9999 : Int32) from fun h => q9 ((nI_ltI (b := 9999) (by omega) (by decide)).mp h)), if_pos (show nI d = (9999 : Int32) by rw [show d = 9999 by omega]; rfl)]
      exact zDo_same H ⟨_, rfl, rfl⟩
/-- how many -/
def zcnt (p : Nat → Bool) : Nat → Nat
  | 0 => 0
  | n + 1 => if p n then zcnt p n + 1 else zcnt p n
theorem zcnt_le (p : Nat → Bool) : ∀ n, zcnt p n ≤ n
  | 0 => Nat.le_refl 0
  | n + 1 => by
    have := zcnt_le p n
    unfold zcnt
    split <;> omega
theorem zcnt_s {p : Nat → Bool} {n : Nat} (h : p n = true) : zcnt p (n + 1) = zcnt p n + 1 := if_pos h
theorem zcnt_n {p : Nat → Bool} {n : Nat} (h : ¬ p n = true) : zcnt p (n + 1) = zcnt p n := if_neg h
theorem zcnt_mono {p : Nat → Bool} {a : Nat} : ∀ d, zcnt p a ≤ zcnt p (a + d)
  | 0 => Nat.le_refl _
  | d + 1 => by
    have h1 := zcnt_mono (p := p) (a := a) d
    have h2 : zcnt p (a + d) ≤ zcnt p (a + d + 1) := by
      show zcnt p (a + d) ≤ if p (a + d) then zcnt p (a + d) + 1 else zcnt p (a + d)
      split <;> omega
    exact Nat.le_trans h1 h2
/-- a book that gets wetter -/
def zwet (S : Nat → Int32) (k : Nat) : Bool := !decide (zbw (S (20 + 7 * k + 4)) = -1) && decide (S (20 + 7 * k + 2) < 9)
theorem zbw_lt (v : Int32) : (zbw v < 0) ↔ zbw v = -1 := by
  unfold zbw
  by_cases h : v = 100
  · rw [if_pos h]; decide
  · rw [if_neg h]
    by_cases h : v = 101
    · rw [if_pos h]; decide
    · rw [if_neg h]; decide
theorem p_wetter {w c : Nat} (hwc : zwc w c) {nb nk ns nr nh k : Nat} {σ : zSg} {I : zTI} {J : zTJ} {S : Nat → Int32} (G : zGood nb nk ns nr nh (I c) S) (hk : k < nk) : qw_canBeWetter w (nI k) σ I J = some (some (.int (if zwet S k then 1 else 0)), (zSC σ, I, J)) := by
  obtain ⟨⟨n0, n1, n2, n3, n4⟩, ⟨s0, s1, s2, s3, s4⟩, ⟨c0, c1, c2, c3, c4⟩, cD, hB, hK, -, hR, -⟩ := id G.1
  obtain ⟨-, -, k2, -, k4, -⟩ := hK k hk
  rw [t_qw_canBeWetter w _ c hwc, p_bargeOfW hwc c1 n1 hk, zkI_s, k4, zy35, zif_n (by omega) (by omega), ztnn (by omega), k2]
  unfold zwet
  by_cases q : zbw (S (20 + 7 * k + 4)) = -1
  · rw [if_pos q, decide_eq_true q]; rfl
  · rw [if_neg q, decide_eq_false q]
    by_cases q2 : S (20 + 7 * k + 2) < 9
    · rw [if_pos q2, decide_eq_true q2]; rfl
    · rw [if_neg q2, decide_eq_false q2]; rfl
theorem p_dryL {I : zTI} {J : zTJ} {nk : Nat} (hn : nk ≤ 12) (s1 : I 10 1 = nI nk) : ∀ d k, k + d = nk → qm_dry_4 (nI (zcnt (zwet (I 10)) k)) (nI k) I J = some (some (.int (nI (zcnt (zwet (I 10)) nk))), (zSM, I, J)) := by
  intro d
  induction d with
  | zero =>
    intro k hk
    rw [t_qm_dry_4, s1, if_neg (fun q => by have := (nI_ltI (by omega) (by omega)).mp q; omega), show k = nk by omega]
  | succ d ih =>
    intro k hk
    rw [t_qm_dry_4, s1, if_pos (nI_lt (by omega) (by omega)), p_bargeWith (by omega), zkI_s, ← ih (k + 1) (by omega), nI_1]
    by_cases q : zbw (I 10 (20 + 7 * k + 4)) = -1
    · rw [if_pos ((zbw_lt _).mpr q), z_add0, zcnt_n (by unfold zwet; rw [decide_eq_true q, Bool.not_true, Bool.false_and]; decide)]
    · rw [if_neg (fun h => q ((zbw_lt _).mp h)), pb2 (by omega), zkI_s]
      by_cases q2 : I 10 (20 + 7 * k + 2) < 9
      · rw [if_pos q2, zcnt_s (by unfold zwet; rw [decide_eq_false q, decide_eq_true q2]; rfl), nI_1]
      · rw [if_neg q2, z_add0, zcnt_n (by unfold zwet; rw [decide_eq_false q2, Bool.and_false]; decide)]
theorem p_canRainL {w c : Nat} (hwc : zwc w c) {nb nk ns nr nh : Nat} {σ : zSg} {I : zTI} {J : zTJ} {S : Nat → Int32} (G : zGood nb nk ns nr nh (I c) S) : ∀ d k, k + d = nk → zcnt (zwet S) k = 0 → qw_canRain_2 w (nI k) σ I J = some (some (.int (if zcnt (zwet S) nk = 0 then 0 else 1)), (zSC σ, I, J)) := by
  obtain ⟨⟨n0, n1, n2, n3, n4⟩, -, ⟨c0, c1, c2, c3, c4⟩, -⟩ := id G.1
  intro d
  induction d with
  | zero =>
    intro k hk e
    rw [t_qw_canRain_2 w _ c hwc, c1, if_neg (fun q => by have := (nI_ltI (by omega) (by omega)).mp q; omega), ← show k = nk by omega, if_pos e]
  | succ d ih =>
    intro k hk e
    rw [t_qw_canRain_2 w _ c hwc, c1, if_pos (nI_lt (by omega) (by omega)), p_wetter hwc G (by omega), zkI_s, nI_1]
    by_cases q : zwet S k = true
    · have h1 := zcnt_s q
      have h2 := zcnt_mono (p := zwet S) (a := k + 1) d
      rw [show k + 1 + d = nk by omega] at h2
      rw [if_pos q, if_neg z10, if_neg (by omega)]
    · rw [if_neg q, if_pos rfl]
      exact ih (k + 1) (by omega) (by rw [zcnt_n q]; exact e)
theorem p_wetL {w c : Nat} (hwc : zwc w c) {nb nk ns nr nh : Nat} {σ : zSg} {J J' : zTJ} {p : Nat → Bool} : ∀ (d k : Nat) (I I' : zTI), k + d = nk → zGood nb nk ns nr nh (I c) (I' 10) → (∀ k', k ≤ k' → k' < nk → zwet (I' 10) k' = p k') → ∃ C' S', qw_wetAboard_4 w (nI (zcnt p k)) (nI k) σ I J = some (some (.int (nI (zcnt p nk))), (zSC σ, zrI I c C', J)) ∧ qm_rains_2 (nI k) I' J' = some (none, (zSM, zrI I' 10 S', J')) ∧ zGood nb nk ns nr nh C' S' ∧ (∀ k, 83 ≤ k → C' k = I c k) := by
  intro d
  induction d with
  | zero =>
    intro k I I' e G hp
    obtain ⟨⟨n0, n1, n2, n3, n4⟩, ⟨s0, s1, s2, s3, s4⟩, ⟨c0, c1, c2, c3, c4⟩, -⟩ := id G.1
    have q : ¬ nI k < nI nk := fun q => by have := (nI_ltI (by omega) (by omega)).mp q; omega
    rw [t_qw_wetAboard_4 w _ _ c hwc, t_qm_rains_2, c1, s1, if_neg q, if_neg q, show k = nk by omega]
    exact ⟨I c, I' 10, by rw [zrI_id rfl], by rw [zrI_id rfl], G, fun _ _ => rfl⟩
  | succ d ih =>
    intro k I I' e G hp
    obtain ⟨⟨n0, n1, n2, n3, n4⟩, ⟨s0, s1, s2, s3, s4⟩, ⟨c0, c1, c2, c3, c4⟩, cD, hB, hK, -, hR, hH⟩ := id G.1
    have hk : k < nk := by omega
    have q : nI k < nI nk := nI_lt hk (by omega)
    obtain ⟨-, -, k2, -⟩ := hK k hk
    obtain ⟨a, ha, ea⟩ := zk_b2 G.1.ns G.2.1 hk
    rw [t_qw_wetAboard_4 w _ _ c hwc, t_qm_rains_2, c1, s1, if_pos q, if_pos q, p_wetter hwc G hk, zkI_s, p_bargeWith (by omega), zkI_s, pb2 (by omega), zkI_s, nI_1]
    simp only [zxb2]
    rw [zif_n (by omega) (by omega), zif_n (by omega) (by omega), ztnn (by omega), zy35, zif_n (by omega) (by omega), zif_n (by omega) (by omega), ztnn (by omega), k2, ea, nI_1, nI_1]
    have hpk := hp k (Nat.le_refl k) hk
    by_cases qw : zwet (I' 10) k = true
    · have qw' := qw
      unfold zwet at qw'
      simp only [Bool.and_eq_true, Bool.not_eq_true', decide_eq_false_iff_not, decide_eq_true_eq] at qw'
      obtain ⟨q1, q2⟩ := qw'
      rw [ea] at q2
      have q3 : a < 9 := (nI_ltI (b := 9) (by omega) (by decide)).mp q2
      rw [if_pos qw, if_neg z10, if_neg (fun h => q1 ((zbw_lt _).mp h)), if_pos q2, zsI_zrI, zsI_zrI, ← zcnt_s (p := p) (by rw [← hpk]; exact qw)]
      have G1 : zGood nb nk ns nr nh (zrI I c (upd (I c) (35 + k) (nI (a + 1))) c) (zrI I' 10 (upd (I' 10) (20 + 7 * k + 2) (nI (a + 1))) 10) := by
        rw [zrI_row, zrI_row]
        exact zGood_upd G (Or.inr (Or.inr (Or.inl ⟨k, hk, by omega⟩))) (zBd_damp G.1.ns hk ⟨_, by omega, rfl⟩) (zAb_no G.2.2.1 n0 n1 (fun _ _ => by omega) (fun _ _ => by omega))
      obtain ⟨C', S', f1, f2, f3, f4⟩ := ih (k + 1) _ _ (by omega) G1 (fun k' h1 h2 => by
        rw [← hp k' (by omega) h2, zrI_row]
        unfold zwet
        rw [u_no (by omega), u_no (by omega)])
      exact ⟨C', S', by rw [f1, zrI_zrI], by rw [f2, zrI_zrI], f3, fun k' hk' => by rw [f4 k' hk', zrI_row, u_no (by omega)]⟩
    · obtain ⟨C', S', f1, f2, f3, f4⟩ := ih (k + 1) _ _ (by omega) G (fun k' h1 h2 => hp k' (by omega) h2)
      rw [if_neg qw, if_pos rfl, ← zcnt_n (p := p) (n := k) (by rw [← hpk]; exact qw)]
      refine ⟨C', S', f1, ?_, f3, f4⟩
      by_cases q1 : zbw (I' 10 (20 + 7 * k + 4)) = -1
      · rw [if_pos ((zbw_lt _).mpr q1)]
        exact f2
      · rw [if_neg (fun h => q1 ((zbw_lt _).mp h)), if_neg (fun h => qw (by unfold zwet; rw [decide_eq_false q1, ea, decide_eq_true h]; rfl))]
        exact f2
theorem p_wetG {w c : Nat} (hwc : zwc w c) {nb nk ns nr nh : Nat} {σ : zSg} {I I' : zTI} {J J' : zTJ} (G : zGood nb nk ns nr nh (I c) (I' 10)) : ∃ C' S', qw_wetAboard w σ I J = some (some (.int (nI (zcnt (zwet (I' 10)) nk))), (zSC σ, zrI I c C', J)) ∧ qm_rains I' J' = some (none, (zSM, zrI I' 10 S', J')) ∧ zGood nb nk ns nr nh C' S' ∧ (∀ k, 83 ≤ k → C' k = I c k) := by
  rw [t_qw_wetAboard w c hwc, t_qm_rains]
  exact p_wetL hwc nk 0 I I' (by omega) G (fun _ _ _ => rfl)
theorem o_rain {nb nk ns nr nh t j u : Nat} {σ : zSg} {I I' : zTI} {J J' : zTJ} (H : zSta nb nk ns nr nh t j u I I') : zDo nb nk ns nr nh t σ I I' (qb_rain σ I J) (qm_rain I' J') := by
  obtain ⟨T, G, -⟩ := id H
  obtain ⟨⟨n0, n1, n2, n3, n4⟩, ⟨s0, s1, s2, s3, s4⟩, ⟨c0, c1, c2, c3, c4⟩, cD, hB, hK, -, hR, -⟩ := id G.1
  have hc := zcnt_le (zwet (I' 10)) nk
  rw [t_qb_rain, t_qm_rain, t_qw_canRain 2 3 w2, t_qm_dry, show qw_canRain_2 2 0 σ I J = _ from p_canRainL w2 G nk 0 (by omega) rfl, zkI_s, show qm_dry_4 0 0 I' J' = _ from p_dryL n1 s1 nk 0 (by omega), zkI_s]
  by_cases q : zcnt (zwet (I' 10)) nk = 0
  · rw [if_pos q, if_pos rfl, if_pos (by rw [q]; rfl)]
    exact zDo_same H ⟨_, rfl, rfl⟩
  · rw [if_neg q, if_neg z10, if_neg (show ¬ nI (zcnt (zwet (I' 10)) nk) = 0 from fun e => q (znI (b := 0) (by omega) (by decide) e))]
    refine zDo_act (J := J) (J' := J') H fun I1 I1' a1 a2 a3 a4 a5 => ?_
    obtain ⟨C', S', f1, f2, f3, f4⟩ := p_wetG w2 (σ := σ) (I := I1) (I' := I1') (J := J) (J' := J') (by rw [a3, a4]; exact G)
    rw [a1, zkV_s, a2, zkV_s, f1, zkI_s, f2, zkV_s, a4]
    exact ⟨_, _, _, _, _, rfl, rfl, fun k' hk' => by rw [f4 k' hk', a3], f3⟩
