/-! ===== meeting ===== -/
theorem a_ts {d k : Nat} {x2 x3 x4 x5 x6 x7 : Int32} {σ : zSg} {I : zTI} {J : zTJ} (hk : k ≤ 12) (h : 2 + k < d) : zask zG (zS zG) d 27 [.ref 34, .int (nI k - 1), .int x2, .int x3, .int x4, .int x5, .int x6, .int x7] (zSC σ, I, J) = qt_search (2 + k) (nI k - 1) x2 x3 x4 x5 x6 x7 σ I J := by
  have h1 : zht (zG 27) [.ref 34, .int (nI k - 1), .int x2, .int x3, .int x4, .int x5, .int x6, .int x7] = 2 + k := by
    show 2 + ((nI k - 1) + 1).toNatClampNeg = 2 + k
    rw [z_kk, ztnn (by omega)]
  unfold zask
  rw [h1, show Nat.blt (2 + k) d = true from by rw [Nat.blt_eq]; exact h]
  rfl
/-- what goes over from barge 0 to 1: below 0 the other way -/
def zsg (S : Nat → Int32) (k : Nat) (v : Int32) : Int32 := if zab S 0 k then v else if zab S 1 k then -v else 0
def zT9 (nk : Nat) : Option Nat → Int32
  | none => 13
  | some q => nI (zsz_ nk q)
def zTh (nk : Nat) (I0 : zTI) (s : Option Nat) : zTI := zrI I0 34 (upd (upd (I0 34) 9 (zT9 nk s)) 10 (zL8 s))
theorem zTh_9 {nk : Nat} {I0 : zTI} {s : Option Nat} : zTh nk I0 s 34 9 = zT9 nk s := by
  unfold zTh
  rw [zrI_row, u_no (by decide), u_at]
theorem zTh_8 {nk : Nat} {I0 : zTI} {s : Option Nat} : zTh nk I0 s 34 10 = zL8 s := by
  unfold zTh
  rw [zrI_row, u_at]
theorem zTh_o {nk : Nat} {I0 : zTI} {s : Option Nat} {k : Nat} (h : k < 9) : zTh nk I0 s 34 k = I0 34 k := by
  unfold zTh
  rw [zrI_row, u_no (by omega), u_no (by omega)]
theorem zTh_r {nk : Nat} {I0 : zTI} {s : Option Nat} {i : Nat} (h : i ≠ 34) : zTh nk I0 s i = I0 i := by
  unfold zTh
  rw [zrI_ne _ _ h]
theorem zTh_w {nk : Nat} {I0 : zTI} {s : Option Nat} {m : Nat} : zsI (zsI (zTh nk I0 s) 34 9 (nI (zsz_ nk m))) 34 10 (nI m) = zTh nk I0 (some m) := by
  unfold zTh
  simp only [zsI_zrI, zrI_zrI, zrI_row]
  congr 1
  funext i
  simp only [u_if]
  by_cases q8 : i = 10
  · simp only [if_pos q8]; rfl
  · by_cases q6 : i = 9
    · simp only [if_neg q8, if_pos q6]; rfl
    · simp only [if_neg q8, if_neg q6]
theorem zwt_0 {nk m : Nat} : zwt nk (fun _ => 0) m = 0 := by
  unfold zwt
  have := zsN_le (f := fun _ => 0) (p := m.testBit) (c := 0) nk (fun _ _ => Nat.le_refl 0)
  omega
theorem zsg_0 {nb nk ns nr nh k : Nat} {S : Nat → Int32} (N : zNs nb nk ns nr nh) (O : zOK nb nk ns nr nh S) (hk : k < nk) : zsg S k (zhv S k) = 0 ↔ ¬ (zab S 0 k || zab S 1 k) = true := by
  obtain ⟨d, d1, d2, ed⟩ := z_hv0 N O hk
  unfold zsg
  by_cases h0 : zab S 0 k = true
  · rw [if_pos h0, ed, h0]
    exact ⟨fun h => by have := znI (b := 0) (by omega) (by decide) h; omega, fun h => absurd rfl h⟩
  · rw [if_neg h0, Bool.eq_false_iff.mpr h0, Bool.false_or]
    by_cases h1 : zab S 1 k = true
    · rw [if_pos h1, ed, h1]
      refine ⟨fun h => ?_, fun h => absurd rfl h⟩
      have h2 := congrArg Int32.toInt h
      rw [zti_neg (nI_toInt (by omega)) (by omega) (by omega)] at h2
      have : (0 : Int32).toInt = 0 := by decide
      omega
    · rw [if_neg h1]
      exact ⟨fun _ => h1, fun _ => rfl⟩
set_option maxHeartbeats 4000000 in
theorem p_tsearch {nb nk ns nr nh : Nat} {S : Nat → Int32} {σ : zSg} {J : zTJ} {I0 : zTI} {L0 T0 L1 T1 d0 d1 st0 le0 st1 le1 : Int32} (N : zNs nb nk ns nr nh) (O : zOK nb nk ns nr nh S) (F : ∀ i, i < nk → I0 35 i = zsg S i (zhv S i) ∧ I0 36 i = zsg S i (ztl S 0 i) ∧ I0 37 i = zsg S i (ztl S 1 i)) (e3 : I0 34 3 = st0) (e4 : I0 34 4 = le0) (e5 : I0 34 5 = d0) (e6 : I0 34 6 = st1) (e7 : I0 34 7 = le1) (e8 : I0 34 8 = d1) (h3 : ¬ st0 < 1) (h4 : ¬ le0 < 1) (h6 : ¬ st1 < 1) (h7 : ¬ le1 < 1) :
    ∀ (k M : Nat) (s : Option Nat), k ≤ nk → (∀ i, i < nk → zms k M i = true → (zab S 0 i || zab S 1 i) = true) → qt_search (2 + k) (nI k - 1) (zsum (fun i => -(zsg S i (zhv S i))) (zms k M) L0 nk) (zsum (fun i => -(zsg S i (ztl S 0 i))) (zms k M) T0 nk) (zsum (fun i => zsg S i (zhv S i)) (zms k M) L1 nk) (zsum (fun i => zsg S i (ztl S 1 i)) (zms k M) T1 nk) (nI (zcnt (zms k M) nk)) (nI (M * 2 ^ k)) σ (zTh nk I0 s) J = some (none, (zSC σ, zTh nk I0 (zdfs (zlst nk (fun i => zab S 0 i || zab S 1 i) (fun _ => 0) (fun m => !decide (d0 < zdr (zsum (fun i => -(zsg S i (zhv S i))) m.testBit L0 nk) (zsum (fun i => -(zsg S i (ztl S 0 i))) m.testBit T0 nk) st0 le0) && !decide (d1 < zdr (zsum (fun i => zsg S i (zhv S i)) m.testBit L1 nk) (zsum (fun i => zsg S i (ztl S 1 i)) m.testBit T1 nk) st1 le1))) k M s), J)) := by
  intro k
  have hnk := N.2.1
  have h13 : (13 : Int32) = nI 13 := rfl
  induction k with
  | zero =>
    intro M s hk hs
    have hc := zcnt_le (zms 0 M) nk
    have hsb : zsb nk (fun i => zab S 0 i || zab S 1 i) M = true := decide_eq_true (fun i hi h => hs i hi (by rw [zms_0]; exact h))
    rw [t_qt_search, zTh_9, zTh_o (by omega), zTh_o (by omega), e3, e4, if_pos (show nI 0 - 1 < 0 by decide)]
    show _ = some (none, (zSC σ, zTh nk I0 (zlst nk (fun i => zab S 0 i || zab S 1 i) (fun _ => 0) _ s M), J))
    unfold zlst
    simp only [zwt_0]
    rw [if_pos hsb, zms_0] at *
    have body : (zkI (zask zG (zS zG) (2 + 0) 93 [.int (zsum (fun i => -(zsg S i (zhv S i))) M.testBit L0 nk), .int (zsum (fun i => -(zsg S i (ztl S 0 i))) M.testBit T0 nk), .int st0, .int le0] ((zSC σ), zTh nk I0 s, J)) (zSC σ) (fun r3 I1 J2 => (if (I1 34 5) < r3 then (some (none, ((zSC σ), I1, J2))) else (zkI (zask zG (zS zG) (2 + 0) 93 [.int (zsum (fun i => zsg S i (zhv S i)) M.testBit L1 nk), .int (zsum (fun i => zsg S i (ztl S 1 i)) M.testBit T1 nk), .int (I1 34 6), .int (I1 34 7)] ((zSC σ), I1, J2)) (zSC σ) (fun r6 I4 J5 => (if (I4 34 8) < r6 then (some (none, ((zSC σ), I4, J5))) else (some (none, ((zSC σ), (zsI (zsI I4 34 9 (nI (zcnt M.testBit nk))) 34 10 (nI (M * 2 ^ 0))), J5))))))))) = some (none, (zSC σ, zTh nk I0 (if (!decide (d0 < zdr (zsum (fun i => -(zsg S i (zhv S i))) M.testBit L0 nk) (zsum (fun i => -(zsg S i (ztl S 0 i))) M.testBit T0 nk) st0 le0) && !decide (d1 < zdr (zsum (fun i => zsg S i (zhv S i)) M.testBit L1 nk) (zsum (fun i => zsg S i (ztl S 1 i)) M.testBit T1 nk) st1 le1)) = true then some M else s), J)) := by
      rw [a_db (by omega), p_draughtByW w2 h3 h4, zkI_s, zTh_o (by omega), zTh_o (by omega), zTh_o (by omega), e5, e6, e7, Nat.pow_zero, Nat.mul_one]
      by_cases q : d0 < zdr (zsum (fun i => -(zsg S i (zhv S i))) M.testBit L0 nk) (zsum (fun i => -(zsg S i (ztl S 0 i))) M.testBit T0 nk) st0 le0
      · rw [if_pos q, decide_eq_true q, Bool.not_true, Bool.false_and, if_neg (by decide)]
      · rw [if_neg q, decide_eq_false q, a_db (by omega), p_draughtByW w2 h6 h7, zkI_s, zTh_o (by omega), e8]
        by_cases q1 : d1 < zdr (zsum (fun i => zsg S i (zhv S i)) M.testBit L1 nk) (zsum (fun i => zsg S i (ztl S 1 i)) M.testBit T1 nk) st1 le1
        · rw [if_pos q1, decide_eq_true q1, if_neg (by decide)]
        · rw [if_neg q1, decide_eq_false q1, if_pos (by decide)]
          exact congrArg (fun I => some (none, (zSC σ, I, J))) zTh_w
    cases s with
    | none =>
      rw [show zT9 nk none = nI 13 from rfl, if_pos (nI_lt (by omega) (by omega))]
      exact body
    | some q =>
      have hqc := zcnt_le q.testBit nk
      rw [show zT9 nk (some q) = nI (zsz_ nk q) from rfl]
      by_cases hp : zsz_ nk M < zsz_ nk q
      · rw [if_pos (show nI (zcnt M.testBit nk) < nI (zsz_ nk q) from nI_lt hp (by unfold zsz_; omega))]
        show _ = some (none, (zSC σ, zTh nk I0 (if _ then some q else _), J))
        rw [if_neg (fun h => h.elim (by omega) (fun h => h.2 hp))]
        exact body
      · rw [if_neg (show ¬ nI (zcnt M.testBit nk) < nI (zsz_ nk q) from fun h => hp ((nI_ltI (a := zcnt M.testBit nk) (by omega) (by unfold zsz_; omega)).mp h))]
        show _ = some (none, (zSC σ, zTh nk I0 (if _ then some q else _), J))
        rw [if_pos (Or.inr ⟨trivial, hp⟩)]
  | succ k ih =>
    intro M s hk hs
    have hc := zcnt_le (zms (k + 1) M) nk
    rw [t_qt_search, zTh_9]
    by_cases hp : nI (zcnt (zms (k + 1) M) nk) < zT9 nk s
    · have ek : nI (k + 1) - 1 = nI k := by rw [← nI_1]; exact Int32.add_sub_cancel _ _
      rw [if_pos hp, ek, if_neg (znn (by omega)), if_pos (show nI k < (12 : Int32) from nI_lt (b := 12) (by omega) (by decide)), a_ts (by omega) (by omega)]
      have i0 := ih (2 * M) s (by omega) (fun i hi h => hs i hi (by rw [zms_even] at h; exact h))
      rw [zms_even, show 2 * M * 2 ^ k = M * 2 ^ (k + 1) by rw [Nat.pow_succ, Nat.mul_comm 2 M, Nat.mul_assoc, Nat.mul_comm 2]] at i0
      rw [i0, zkV_s, zif_n (by omega) (by omega), ztnn (by omega), zTh_r (by decide), zTh_r (by decide), zTh_r (by decide)]
      obtain ⟨f0, f1, f2⟩ := F k (by omega)
      rw [f0, f1, f2]
      by_cases qa : (zab S 0 k || zab S 1 k) = true
      · have i1 := ih (2 * M + 1) (zdfs (zlst nk (fun i => zab S 0 i || zab S 1 i) (fun _ => 0) (fun m => !decide (d0 < zdr (zsum (fun i => -(zsg S i (zhv S i))) m.testBit L0 nk) (zsum (fun i => -(zsg S i (ztl S 0 i))) m.testBit T0 nk) st0 le0) && !decide (d1 < zdr (zsum (fun i => zsg S i (zhv S i)) m.testBit L1 nk) (zsum (fun i => zsg S i (ztl S 1 i)) m.testBit T1 nk) st1 le1))) k (2 * M) s) (by omega) (fun i hi h => by
          rw [zms_odd] at h
          by_cases e : i = k
          · subst e
            exact qa
          · rw [if_neg e] at h
            exact hs i hi h)
        have fl : ∀ i, i ≠ k → zms (k + 1) M i = zms k (2 * M + 1) i := fun i h => by rw [zms_odd, if_neg h]
        have fk : zms k (2 * M + 1) k = true := by rw [zms_odd, if_pos rfl]
        rw [zsum_flip (zms_at k M) fk fl nk (by omega), zsum_flip (zms_at k M) fk fl nk (by omega), zsum_flip (zms_at k M) fk fl nk (by omega), zsum_flip (zms_at k M) fk fl nk (by omega), zcnt_N, zsN_flip (zms_at k M) fk fl nk (by omega), ← zcnt_N, ← z_or1 (by omega), show 2 * M * 2 ^ k = M * 2 ^ (k + 1) by rw [Nat.pow_succ, Nat.mul_comm 2 M, Nat.mul_assoc, Nat.mul_comm 2], ← nI_add] at i1
        rw [if_neg (fun h => ((zsg_0 N O (show k < nk by omega)).mp h) qa), zif_n (by omega) (by omega), zif_n (by omega) (by omega), zif_n (by omega) (by omega), zif_n (by omega) (by omega), a_ts (by omega) (by omega)]
        rw [← Int32.sub_eq_add_neg, ← Int32.sub_eq_add_neg, show nI 1 = (1 : Int32) from rfl] at i1
        rw [i1, zkV_s]
        rfl
      · rw [if_pos ((zsg_0 N O (show k < nk by omega)).mpr qa)]
        show _ = some (none, (zSC σ, zTh nk I0 (zdfs _ k (2 * M + 1) (zdfs _ k (2 * M) s)), J))
        rw [zdfs_id _ k (2 * M + 1)]
        intro m em
        unfold zlst
        rw [if_neg]
        intro h
        have h1 := of_decide_eq_true h k (by omega)
        have h2 := zms_div (k := k) (m := m) k
        rw [em, zms_odd, if_pos rfl, decide_eq_true (Nat.le_refl k), Bool.true_and] at h2
        exact qa (h1 h2.symm)
    · rw [if_neg hp, zdfs_id]
      intro m em
      subst em
      unfold zlst
      by_cases hsb : zsb nk (fun i => zab S 0 i || zab S 1 i) m = true
      · rw [if_pos hsb]
        have m2 : zcnt (zms (k + 1) (m / 2 ^ (k + 1))) nk ≤ zsz_ nk m := by
          unfold zsz_
          rw [zcnt_N, zcnt_N]
          exact zsN_mono nk (fun i hi h => by
            rw [zms_div] at h
            exact (Bool.and_eq_true_iff.mp h).2)
        cases s with
        | none => exact absurd (nI_lt (b := 13) (by omega) (by omega)) hp
        | some q =>
          have hqc := zcnt_le q.testBit nk
          show (if _ then some q else _) = some q
          rw [if_pos]
          simp only [zwt_0]
          exact Or.inr ⟨trivial, fun h => hp (nI_lt (a := zcnt (zms (k + 1) (m / 2 ^ (k + 1))) nk) (b := zsz_ nk q) (by omega) (by unfold zsz_; omega))⟩
      · rw [if_neg hsb]
