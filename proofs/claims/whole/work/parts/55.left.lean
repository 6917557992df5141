/-! ===== left: the class's tree ===== -/
theorem z_kk (k : Nat) : (nI k - 1) + 1 = nI k := by grind
theorem a_es {d k : Nat} {x2 x3 x4 x5 x6 : Int32} {σ : zSg} {I : zTI} {J : zTJ} (hk : k ≤ 12) (h : 2 + k < d) : zask zG (zS zG) d 19 [.ref 19, .int (nI k - 1), .int x2, .int x3, .int x4, .int x5, .int x6] (zSC σ, I, J) = qe_search (2 + k) (nI k - 1) x2 x3 x4 x5 x6 σ I J := by
  have h1 : zht (zG 19) [.ref 19, .int (nI k - 1), .int x2, .int x3, .int x4, .int x5, .int x6] = 2 + k := by
    show 2 + ((nI k - 1) + 1).toNatClampNeg = 2 + k
    rw [z_kk, ztnn (by omega)]
  unfold zask
  rw [h1, show Nat.blt (2 + k) d = true from by rw [Nat.blt_eq]; exact h]
  rfl
theorem a_db {d : Nat} {x0 x1 x2 x3 : Int32} {σ : zSg} {I : zTI} {J : zTJ} (h : 1 < d) : zask zG (zS zG) d 93 [.int x0, .int x1, .int x2, .int x3] (zSC σ, I, J) = qw_draughtBy x0 x1 x2 x3 σ I J := by
  have h1 : zht (zG 93) [.int x0, .int x1, .int x2, .int x3] = 1 := rfl
  unfold zask
  rw [h1, show Nat.blt 1 d = true from by rw [Nat.blt_eq]; exact h]
  rfl
/-- a book's worth as a number -/
def zwN (S : Nat → Int32) (k : Nat) : Nat := (S (20 + 7 * k + 1)).toNatClampNeg
theorem zwN_e {nb nk ns nr nh k : Nat} {S : Nat → Int32} (N : zNs nb nk ns nr nh) (O : zOK nb nk ns nr nh S) (hk : k < nk) : S (20 + 7 * k + 1) = nI (zwN S k) ∧ zwN S k ≤ 99 := by
  obtain ⟨d, hd, e⟩ := zk_b1 N O hk
  unfold zwN
  rw [e, ztnn (by omega)]
  exact ⟨rfl, hd⟩
/-- all of a set are of another -/
def zsb (nk : Nat) (ab : Nat → Bool) (m : Nat) : Bool := decide (∀ i, i < nk → m.testBit i = true → ab i = true)
def zwt (nk : Nat) (w : Nat → Nat) (m : Nat) : Nat := zsN w m.testBit nk
def zsz_ (nk m : Nat) : Nat := zcnt m.testBit nk
/-- one set more: is it the better one -/
def zlst (nk : Nat) (ab : Nat → Bool) (w : Nat → Nat) (ok : Nat → Bool) (s : Option Nat) (m : Nat) : Option Nat :=
  if zsb nk ab m = true then match s with
    | none => if ok m = true then some m else none
    | some q => if zwt nk w q < zwt nk w m ∨ (zwt nk w m = zwt nk w q ∧ ¬ zsz_ nk m < zsz_ nk q) then some q else if ok m = true then some m else some q
  else s
def zL7 (nk : Nat) (w : Nat → Nat) : Option Nat → Int32
  | none => 1000000000
  | some q => nI (zwt nk w q)
def zL6 (nk : Nat) : Option Nat → Int32
  | none => 0
  | some q => nI (zsz_ nk q)
def zL8 : Option Nat → Int32
  | none => -1
  | some q => nI q
def zLh (nk : Nat) (w : Nat → Nat) (I0 : zTI) (s : Option Nat) : zTI := zrI I0 19 (upd (upd (upd (I0 19) 7 (zL7 nk w s)) 6 (zL6 nk s)) 8 (zL8 s))
theorem zLh_7 {nk : Nat} {w : Nat → Nat} {I0 : zTI} {s : Option Nat} : zLh nk w I0 s 19 7 = zL7 nk w s := by
  unfold zLh
  rw [zrI_row, u_no (by decide), u_no (by decide), u_at]
theorem zLh_6 {nk : Nat} {w : Nat → Nat} {I0 : zTI} {s : Option Nat} : zLh nk w I0 s 19 6 = zL6 nk s := by
  unfold zLh
  rw [zrI_row, u_no (by decide), u_at]
theorem zLh_8 {nk : Nat} {w : Nat → Nat} {I0 : zTI} {s : Option Nat} : zLh nk w I0 s 19 8 = zL8 s := by
  unfold zLh
  rw [zrI_row, u_at]
theorem zLh_o {nk : Nat} {w : Nat → Nat} {I0 : zTI} {s : Option Nat} {k : Nat} (h : k < 6) : zLh nk w I0 s 19 k = I0 19 k := by
  unfold zLh
  rw [zrI_row, u_no (by omega), u_no (by omega), u_no (by omega)]
theorem zLh_r {nk : Nat} {w : Nat → Nat} {I0 : zTI} {s : Option Nat} {i : Nat} (h : i ≠ 19) : zLh nk w I0 s i = I0 i := by
  unfold zLh
  rw [zrI_ne _ _ h]
theorem zLh_w {nk : Nat} {w : Nat → Nat} {I0 : zTI} {s : Option Nat} {m : Nat} : zsI (zsI (zsI (zLh nk w I0 s) 19 7 (nI (zwt nk w m))) 19 6 (nI (zsz_ nk m))) 19 8 (nI m) = zLh nk w I0 (some m) := by
  unfold zLh
  simp only [zsI_zrI, zrI_zrI, zrI_row]
  congr 1
  funext i
  simp only [u_if]
  by_cases q8 : i = 8
  · simp only [if_pos q8]; rfl
  · by_cases q6 : i = 6
    · simp only [if_neg q8, if_pos q6]; rfl
    · by_cases q7 : i = 7
      · simp only [if_neg q8, if_neg q6, if_pos q7]; rfl
      · simp only [if_neg q8, if_neg q6, if_neg q7]
theorem es_eq (d : Nat) (x1 x2 x3 x4 x5 x6 : Int32) (σ : zSg) (I : zTI) (J : zTJ) : qe_search d x1 x2 x3 x4 x5 x6 σ I J = if I 19 7 < x4 ∨ (x4 = I 19 7 ∧ ¬ x5 < I 19 6) then some (none, (zSC σ, I, J)) else (if x1 < 0 then (zkI (zask zG (zS zG) d 93 [.int x2, .int x3, .int (I 19 3), .int (I 19 4)] ((zSC σ), I, J)) (zSC σ) (fun r3 I1 J2 => (if (I1 19 5) < r3 then (some (none, ((zSC σ), I1, J2))) else (some (none, ((zSC σ), (zsI (zsI (zsI I1 19 7 x4) 19 6 x5) 19 8 x6), J2)))))) else (if x1 < 12 then (zkV (zask zG (zS zG) d 19 [.ref 19, .int (x1 - 1), .int x2, .int x3, .int x4, .int x5, .int x6] ((zSC σ), I, J)) (zSC σ) (fun I4 J5 => (zif (zin x1 12) (if (0 : Int32) < (I4 20 x1.toNatClampNeg) then (zif (zin x1 12) (zif (zin x1 12) (zif (zin x1 12) (zkV (zask zG (zS zG) d 19 [.ref 19, .int (x1 - 1), .int (x2 - (I4 20 x1.toNatClampNeg)), .int (x3 - (I4 21 x1.toNatClampNeg)), .int (x4 + (I4 22 x1.toNatClampNeg)), .int (x5 + 1), .int (x6 ||| ((1 : Int32) <<< (x1 &&& 31)))] ((zSC σ), I4, J5)) (zSC σ) (fun I6 J7 => (some (none, ((zSC σ), I6, J7)))))))) else (some (none, ((zSC σ), I4, J5))))))) else (zkI (zask zG (zS zG) d 93 [.int x2, .int x3, .int (I 19 3), .int (I 19 4)] ((zSC σ), I, J)) (zSC σ) (fun r10 I8 J9 => (if (I8 19 5) < r10 then (some (none, ((zSC σ), I8, J9))) else (some (none, ((zSC σ), (zsI (zsI (zsI I8 19 7 x4) 19 6 x5) 19 8 x6), J9)))))))) := by
  rw [t_qe_search]
  by_cases h1 : I 19 7 < x4
  · rw [if_pos h1, if_pos (Or.inl h1)]
  · rw [if_neg h1]
    by_cases h2 : x4 = I 19 7
    · rw [if_pos h2]
      by_cases h3 : x5 < I 19 6
      · rw [if_pos h3, if_neg (show ¬ (I 19 7 < x4 ∨ (x4 = I 19 7 ∧ ¬ x5 < I 19 6)) from fun q => q.elim h1 (fun q => q.2 h3))]
      · rw [if_neg h3, if_pos (Or.inr ⟨h2, h3⟩)]
    · rw [if_neg h2, if_neg (show ¬ (I 19 7 < x4 ∨ (x4 = I 19 7 ∧ ¬ x5 < I 19 6)) from fun q => q.elim h1 (fun q => h2 q.1))]
/-- who bears what -/
theorem z_hv0 {nb nk ns nr nh k : Nat} {S : Nat → Int32} (N : zNs nb nk ns nr nh) (O : zOK nb nk ns nr nh S) (hk : k < nk) : ∃ d, 1 ≤ d ∧ d ≤ 108 ∧ zhv S k = nI d := by
  obtain ⟨a, a1, a2, ea⟩ := zk_b0 N O hk
  obtain ⟨d, hd, ed⟩ := zk_b2 N O hk
  refine ⟨a + d, by omega, by omega, ?_⟩
  unfold zhv
  rw [ea, ed, nI_add]
theorem zwt_le {nb nk ns nr nh : Nat} {S : Nat → Int32} (N : zNs nb nk ns nr nh) (O : zOK nb nk ns nr nh S) (p : Nat → Bool) : zsN (zwN S) p nk ≤ 1188 := by
  have h := zsN_le (p := p) (c := 99) nk (fun i hi => (zwN_e N O hi).2)
  have := N.2.1
  omega
set_option maxHeartbeats 4000000 in
theorem p_esearch {nb nk ns nr nh b : Nat} {S : Nat → Int32} {σ : zSg} {J : zTJ} {I0 : zTI} {L T dep st le : Int32} (N : zNs nb nk ns nr nh) (O : zOK nb nk ns nr nh S) (F : ∀ i, i < nk → I0 20 i = (if zab S b i then zhv S i else 0) ∧ I0 21 i = (if zab S b i then ztl S b i else 0) ∧ I0 22 i = S (20 + 7 * i + 1)) (e3 : I0 19 3 = st) (e4 : I0 19 4 = le) (e5 : I0 19 5 = dep) (h3 : ¬ st < 1) (h4 : ¬ le < 1) :
    ∀ (k M : Nat) (s : Option Nat), k ≤ nk → (∀ i, i < nk → zms k M i = true → zab S b i = true) → qe_search (2 + k) (nI k - 1) (zsum (fun i => -(zhv S i)) (zms k M) L nk) (zsum (fun i => -(ztl S b i)) (zms k M) T nk) (nI (zsN (zwN S) (zms k M) nk)) (nI (zcnt (zms k M) nk)) (nI (M * 2 ^ k)) σ (zLh nk (zwN S) I0 s) J = some (none, (zSC σ, zLh nk (zwN S) I0 (zdfs (zlst nk (zab S b) (zwN S) (fun m => !decide (dep < zdr (zsum (fun i => -(zhv S i)) m.testBit L nk) (zsum (fun i => -(ztl S b i)) m.testBit T nk) st le))) k M s), J)) := by
  intro k
  have hnk := N.2.1
  induction k with
  | zero =>
    intro M s hk hs
    have hw := zwt_le N O (zms 0 M)
    have hc := zcnt_le (zms 0 M) nk
    have hsb : zsb nk (zab S b) M = true := decide_eq_true (fun i hi h => hs i hi (by rw [zms_0]; exact h))
    rw [es_eq, zLh_7, zLh_6, zLh_o (by omega), zLh_o (by omega), e3, e4]
    show _ = some (none, (zSC σ, zLh nk (zwN S) I0 (zlst nk (zab S b) (zwN S) _ s M), J))
    unfold zlst
    rw [if_pos hsb, zms_0] at *
    have body : (if nI 0 - 1 < 0 then (zkI (zask zG (zS zG) (2 + 0) 93 [.int (zsum (fun i => -(zhv S i)) M.testBit L nk), .int (zsum (fun i => -(ztl S b i)) M.testBit T nk), .int st, .int le] ((zSC σ), zLh nk (zwN S) I0 s, J)) (zSC σ) (fun r3 I1 J2 => (if (I1 19 5) < r3 then (some (none, ((zSC σ), I1, J2))) else (some (none, ((zSC σ), (zsI (zsI (zsI I1 19 7 (nI (zsN (zwN S) M.testBit nk))) 19 6 (nI (zcnt M.testBit nk))) 19 8 (nI (M * 2 ^ 0))), J2)))))) else none) = some (none, (zSC σ, zLh nk (zwN S) I0 (if (!decide (dep < zdr (zsum (fun i => -(zhv S i)) M.testBit L nk) (zsum (fun i => -(ztl S b i)) M.testBit T nk) st le)) = true then some M else s), J)) := by
      rw [if_pos (show nI 0 - 1 < 0 by decide), a_db (by omega), p_draughtByW w2 h3 h4, zkI_s, zLh_o (by omega), e5, Nat.pow_zero, Nat.mul_one]
      by_cases q : dep < zdr (zsum (fun i => -(zhv S i)) M.testBit L nk) (zsum (fun i => -(ztl S b i)) M.testBit T nk) st le
      · rw [if_pos q, decide_eq_true q, if_neg (by decide)]
      · rw [if_neg q, decide_eq_false q, if_pos (by decide)]
        exact congrArg (fun I => some (none, (zSC σ, I, J))) zLh_w
    rw [if_pos (show nI 0 - 1 < 0 by decide)] at body ⊢
    cases s with
    | none =>
      rw [if_neg]
      · exact body
      · rintro (q | ⟨q, -⟩)
        · have := (nI_ltI (a := 1000000000) (by decide) (by omega)).mp q
          omega
        · have := znI (b := 1000000000) (by omega) (by decide) q
          omega
    | some q =>
      have hq := zwt_le N O q.testBit
      have hqc := zcnt_le q.testBit nk
      show (if nI (zwt nk (zwN S) q) < _ ∨ _ = nI (zwt nk (zwN S) q) ∧ ¬ _ < nI (zsz_ nk q) then _ else _) = _
      have hiff : (nI (zwt nk (zwN S) q) < nI (zsN (zwN S) M.testBit nk) ∨ nI (zsN (zwN S) M.testBit nk) = nI (zwt nk (zwN S) q) ∧ ¬ nI (zcnt M.testBit nk) < nI (zsz_ nk q)) ↔ (zwt nk (zwN S) q < zwt nk (zwN S) M ∨ (zwt nk (zwN S) M = zwt nk (zwN S) q ∧ ¬ zsz_ nk M < zsz_ nk q)) := by
        unfold zwt zsz_
        rw [nI_ltI (by omega) (by omega), nI_ltI (by omega) (by omega)]
        constructor
        · rintro (h | ⟨h, h'⟩)
          · exact Or.inl h
          · exact Or.inr ⟨znI (by omega) (by omega) h, h'⟩
        · rintro (h | ⟨h, h'⟩)
          · exact Or.inl h
          · exact Or.inr ⟨by rw [h], h'⟩
      by_cases hp : (zwt nk (zwN S) q < zwt nk (zwN S) M ∨ (zwt nk (zwN S) M = zwt nk (zwN S) q ∧ ¬ zsz_ nk M < zsz_ nk q))
      · rw [if_pos (hiff.mpr hp)]
        show _ = some (none, (zSC σ, zLh nk (zwN S) I0 (if _ then some q else _), J))
        rw [if_pos hp]
      · rw [if_neg (fun h => hp (hiff.mp h))]
        show _ = some (none, (zSC σ, zLh nk (zwN S) I0 (if _ then some q else _), J))
        rw [if_neg hp]
        exact body
  | succ k ih =>
    intro M s hk hs
    have hw := zwt_le N O (zms (k + 1) M)
    have hc := zcnt_le (zms (k + 1) M) nk
    rw [es_eq, zLh_7, zLh_6]
    by_cases hp : zL7 nk (zwN S) s < nI (zsN (zwN S) (zms (k + 1) M) nk) ∨ (nI (zsN (zwN S) (zms (k + 1) M) nk) = zL7 nk (zwN S) s ∧ ¬ nI (zcnt (zms (k + 1) M) nk) < zL6 nk s)
    · rw [if_pos hp, zdfs_id]
      intro m em
      subst em
      unfold zlst
      by_cases hsb : zsb nk (zab S b) m = true
      · rw [if_pos hsb]
        have m1 : zsN (zwN S) (zms (k + 1) (m / 2 ^ (k + 1))) nk ≤ zwt nk (zwN S) m := zsN_mono nk (fun i hi h => by
          rw [zms_div] at h
          exact (Bool.and_eq_true_iff.mp h).2)
        have m2 : zcnt (zms (k + 1) (m / 2 ^ (k + 1))) nk ≤ zsz_ nk m := by
          unfold zsz_
          rw [zcnt_N, zcnt_N]
          exact zsN_mono nk (fun i hi h => by
            rw [zms_div] at h
            exact (Bool.and_eq_true_iff.mp h).2)
        cases s with
        | none =>
          exfalso
          rcases hp with q | ⟨q, -⟩
          · have := (nI_ltI (a := 1000000000) (by decide) (by omega)).mp q
            omega
          · have := znI (b := 1000000000) (by omega) (by decide) q
            omega
        | some q =>
          have hq := zwt_le N O q.testBit
          have hqc := zcnt_le q.testBit nk
          show (if _ then some q else _) = some q
          rw [if_pos]
          rcases hp with h | ⟨h, h'⟩
          · have h1 : zwt nk (zwN S) q < zsN (zwN S) (zms (k + 1) (m / 2 ^ (k + 1))) nk := (nI_ltI (by unfold zwt; omega) (by omega)).mp h
            exact Or.inl (by omega)
          · have h1 : zsN (zwN S) (zms (k + 1) (m / 2 ^ (k + 1))) nk = zwt nk (zwN S) q := znI (by omega) (by unfold zwt; omega) h
            have h2 : ¬ zcnt (zms (k + 1) (m / 2 ^ (k + 1))) nk < zsz_ nk q := fun q => h' ((nI_ltI (by omega) (by unfold zsz_; omega)).mpr q)
            by_cases e : zwt nk (zwN S) m = zwt nk (zwN S) q
            · exact Or.inr ⟨e, by omega⟩
            · exact Or.inl (by omega)
      · rw [if_neg hsb]
    · have ek : nI (k + 1) - 1 = nI k := by rw [← nI_1]; exact Int32.add_sub_cancel _ _
      rw [if_neg hp, ek, if_neg (znn (by omega)), if_pos (show nI k < (12 : Int32) from nI_lt (b := 12) (by omega) (by decide)), a_es (by omega) (by omega)]
      have i0 := ih (2 * M) s (by omega) (fun i hi h => hs i hi (by rw [zms_even] at h; exact h))
      rw [zms_even, show 2 * M * 2 ^ k = M * 2 ^ (k + 1) by rw [Nat.pow_succ, Nat.mul_comm 2 M, Nat.mul_assoc, Nat.mul_comm 2]] at i0
      rw [i0, zkV_s, zif_n (by omega) (by omega), ztnn (by omega), zLh_r (by decide), zLh_r (by decide), zLh_r (by decide)]
      obtain ⟨f0, f1, f2⟩ := F k (by omega)
      rw [f0, f1, f2, (zwN_e N O (show k < nk by omega)).1]
      by_cases qa : zab S b k = true
      · obtain ⟨d, d1, d2, ed⟩ := z_hv0 N O (show k < nk by omega)
        have i1 := ih (2 * M + 1) (zdfs (zlst nk (zab S b) (zwN S) (fun m => !decide (dep < zdr (zsum (fun i => -(zhv S i)) m.testBit L nk) (zsum (fun i => -(ztl S b i)) m.testBit T nk) st le))) k (2 * M) s) (by omega) (fun i hi h => by
          rw [zms_odd] at h
          by_cases e : i = k
          · subst e
            exact qa
          · rw [if_neg e] at h
            exact hs i hi h)
        have fl : ∀ i, i ≠ k → zms (k + 1) M i = zms k (2 * M + 1) i := fun i h => by rw [zms_odd, if_neg h]
        have fk : zms k (2 * M + 1) k = true := by rw [zms_odd, if_pos rfl]
        rw [zsum_flip (zms_at k M) fk fl nk (by omega), zsum_flip (zms_at k M) fk fl nk (by omega), zsN_flip (zms_at k M) fk fl nk (by omega), zcnt_N, zsN_flip (zms_at k M) fk fl nk (by omega), ← zcnt_N, ← z_or1 (by omega), show 2 * M * 2 ^ k = M * 2 ^ (k + 1) by rw [Nat.pow_succ, Nat.mul_comm 2 M, Nat.mul_assoc, Nat.mul_comm 2], ← nI_add, ← nI_add] at i1
        rw [if_pos qa, if_pos qa, ed, if_pos (show (0 : Int32) < nI d from nI_lt (a := 0) (by omega) (by omega)), zif_n (by omega) (by omega), zif_n (by omega) (by omega), zif_n (by omega) (by omega), a_es (by omega) (by omega), ← ed]
        rw [← Int32.sub_eq_add_neg, ← Int32.sub_eq_add_neg, show nI 1 = (1 : Int32) from rfl] at i1
        rw [i1, zkV_s]
        rfl
      · rw [if_neg qa, if_neg (show ¬ (0 : Int32) < 0 by decide)]
        show _ = some (none, (zSC σ, zLh nk (zwN S) I0 (zdfs _ k (2 * M + 1) (zdfs _ k (2 * M) s)), J))
        rw [zdfs_id _ k (2 * M + 1)]
        intro m em
        unfold zlst
        rw [if_neg]
        intro h
        have h1 := of_decide_eq_true h k (by omega)
        have h2 := zms_div (k := k) (m := m) k
        rw [em, zms_odd, if_pos rfl, decide_eq_true (Nat.le_refl k), Bool.true_and] at h2
        exact qa (h1 h2.symm)
