/-! ===== aboard: the class's tree ===== -/
theorem a_cs {d k : Nat} {x2 x3 x4 : Int32} {σ : zSg} {I : zTI} {J : zTJ} (hk : k ≤ 12) (h : 2 + k < d) : zask zG (zS zG) d 3 [.ref 38, .int (nI k - 1), .int x2, .int x3, .int x4] (zSC σ, I, J) = qc_search (2 + k) (nI k - 1) x2 x3 x4 σ I J := by
  have h1 : zht (zG 3) [.ref 38, .int (nI k - 1), .int x2, .int x3, .int x4] = 2 + k := by
    show 2 + ((nI k - 1) + 1).toNatClampNeg = 2 + k
    rw [z_kk, ztnn (by omega)]
  unfold zask
  rw [h1, show Nat.blt (2 + k) d = true from by rw [Nat.blt_eq]; exact h]
  rfl
abbrev zC3 : Type := Int32 × Int32 × Int32
def zcst (nk : Nat) (ab ok : Nat → Bool) (s : zC3) (m : Nat) : zC3 := if (zsb nk ab m && ok m) = true then (s.1 + 1, s.2.1 &&& nI m, s.2.2 ||| nI m) else s
def zCh (I0 : zTI) (s : zC3) : zTI := zrI I0 38 (upd (upd (upd (I0 38) 8 s.1) 9 s.2.1) 7 s.2.2)
theorem zCh_8 {I0 : zTI} {s : zC3} : zCh I0 s 38 8 = s.1 := by
  unfold zCh
  rw [zrI_row, u_no (by decide), u_no (by decide), u_at]
theorem zCh_9 {I0 : zTI} {s : zC3} : zCh I0 s 38 9 = s.2.1 := by
  unfold zCh
  rw [zrI_row, u_no (by decide), u_at]
theorem zCh_7 {I0 : zTI} {s : zC3} : zCh I0 s 38 7 = s.2.2 := by
  unfold zCh
  rw [zrI_row, u_at]
theorem zCh_o {I0 : zTI} {s : zC3} {k : Nat} (h : k < 7) : zCh I0 s 38 k = I0 38 k := by
  unfold zCh
  rw [zrI_row, u_no (by omega), u_no (by omega), u_no (by omega)]
theorem zCh_r {I0 : zTI} {s : zC3} {i : Nat} (h : i ≠ 38) : zCh I0 s i = I0 i := by
  unfold zCh
  rw [zrI_ne _ _ h]
theorem zCh_w {I0 : zTI} {s s' : zC3} : zsI (zsI (zsI (zCh I0 s) 38 8 s'.1) 38 9 s'.2.1) 38 7 s'.2.2 = zCh I0 s' := by
  unfold zCh
  simp only [zsI_zrI, zrI_zrI, zrI_row]
  congr 1
  funext i
  simp only [u_if]
  by_cases q7 : i = 7
  · simp only [if_pos q7]
  · by_cases q9 : i = 9
    · simp only [if_neg q7, if_pos q9]
    · by_cases q8 : i = 8
      · simp only [if_neg q7, if_neg q9, if_pos q8]
      · simp only [if_neg q7, if_neg q9, if_neg q8]
/-- how one set lies -/
def zokC (S : Nat → Int32) (nk b : Nat) (D w fl : Int32) (m : Nat) : Bool := (!decide (fl = 0) || decide (zsum (ztl S b) m.testBit 0 nk = w)) && decide (zdr (zsum (zhv S) m.testBit (S (6 + 7 * b + 1) + S (6 + 7 * b + 4)) nk) (zsum (ztl S b) m.testBit 0 nk) (S (6 + 7 * b + 2)) (S (6 + 7 * b + 3)) = D)
theorem cs_leaf {d : Nat} {x2 x3 x4 D w fl st le : Int32} {σ : zSg} {I0 : zTI} {J : zTJ} {s : zC3} (hd : 1 < d) (e2 : I0 38 2 = st) (e3 : I0 38 3 = le) (e4 : I0 38 4 = D) (e5 : I0 38 5 = w) (e6 : I0 38 6 = fl) (h3 : ¬ st < 1) (h4 : ¬ le < 1) : (if (zCh I0 s 38 6) = 0 then (if x3 = (zCh I0 s 38 5) then (zkI (zask zG (zS zG) d 93 [.int x2, .int x3, .int (zCh I0 s 38 2), .int (zCh I0 s 38 3)] ((zSC σ), zCh I0 s, J)) (zSC σ) (fun r3 I1 J2 => (if r3 = (I1 38 4) then (some (none, ((zSC σ), (zsI (zsI (zsI I1 38 8 ((I1 38 8) + 1)) 38 9 ((I1 38 9) &&& x4)) 38 7 ((I1 38 7) ||| x4)), J2))) else (some (none, ((zSC σ), I1, J2)))))) else (some (none, ((zSC σ), zCh I0 s, J)))) else (zkI (zask zG (zS zG) d 93 [.int x2, .int x3, .int (zCh I0 s 38 2), .int (zCh I0 s 38 3)] ((zSC σ), zCh I0 s, J)) (zSC σ) (fun r6 I4 J5 => (if r6 = (I4 38 4) then (some (none, ((zSC σ), (zsI (zsI (zsI I4 38 8 ((I4 38 8) + 1)) 38 9 ((I4 38 9) &&& x4)) 38 7 ((I4 38 7) ||| x4)), J5))) else (some (none, ((zSC σ), I4, J5))))))) = some (none, (zSC σ, zCh I0 (if ((!decide (fl = 0) || decide (x3 = w)) && decide (zdr x2 x3 st le = D)) = true then (s.1 + 1, s.2.1 &&& x4, s.2.2 ||| x4) else s), J)) := by
  have ask : (zkI (zask zG (zS zG) d 93 [.int x2, .int x3, .int (zCh I0 s 38 2), .int (zCh I0 s 38 3)] ((zSC σ), zCh I0 s, J)) (zSC σ) (fun r6 I4 J5 => (if r6 = (I4 38 4) then (some (none, ((zSC σ), (zsI (zsI (zsI I4 38 8 ((I4 38 8) + 1)) 38 9 ((I4 38 9) &&& x4)) 38 7 ((I4 38 7) ||| x4)), J5))) else (some (none, ((zSC σ), I4, J5)))))) = some (none, (zSC σ, zCh I0 (if decide (zdr x2 x3 st le = D) = true then (s.1 + 1, s.2.1 &&& x4, s.2.2 ||| x4) else s), J)) := by
    rw [zCh_o (by omega), zCh_o (by omega), e2, e3, a_db hd, p_draughtByW w2 h3 h4, zkI_s, zCh_o (by omega), e4, zCh_8, zCh_9, zCh_7]
    by_cases q : zdr x2 x3 st le = D
    · rw [if_pos q, if_pos (decide_eq_true q)]
      exact congrArg (fun I => some (none, (zSC σ, I, J))) (zCh_w (s' := (s.1 + 1, s.2.1 &&& x4, s.2.2 ||| x4)))
    · rw [if_neg q, if_neg (by rw [decide_eq_false q]; decide)]
  rw [ask, zCh_o (by omega), zCh_o (by omega), e5, e6]
  by_cases q : fl = 0
  · rw [if_pos q, decide_eq_true q, Bool.not_true, Bool.false_or]
    by_cases q2 : x3 = w
    · rw [if_pos q2, decide_eq_true q2, Bool.true_and]
    · rw [if_neg q2, decide_eq_false q2, Bool.false_and, if_neg (by decide)]
  · rw [if_neg q, decide_eq_false q, Bool.not_false, Bool.true_or, Bool.true_and]
set_option maxHeartbeats 4000000 in
theorem p_csearch {nb nk ns nr nh b dr : Nat} {S : Nat → Int32} {σ : zSg} {J : zTJ} {I0 : zTI} {w fl : Int32} {cd : Nat → Bool} (N : zNs nb nk ns nr nh) (O : zOK nb nk ns nr nh S) (hb : b < nb) (hdr : dr ≤ 9999) (F : ∀ i, i < nk → I0 39 i = (if cd i then zhv S i else 0) ∧ I0 40 i = (if cd i then ztl S b i else 0)) (e2 : I0 38 2 = S (6 + 7 * b + 2)) (e3 : I0 38 3 = S (6 + 7 * b + 3)) (e4 : I0 38 4 = nI dr) (e5 : I0 38 5 = w) (e6 : I0 38 6 = fl) :
    ∀ (k M : Nat) (s : zC3), k ≤ nk → (∀ i, i < nk → zms k M i = true → cd i = true) → qc_search (2 + k) (nI k - 1) (zsum (zhv S) (zms k M) (S (6 + 7 * b + 1) + S (6 + 7 * b + 4)) nk) (zsum (ztl S b) (zms k M) 0 nk) (nI (M * 2 ^ k)) σ (zCh I0 s) J = some (none, (zSC σ, zCh I0 (zdfs (zcst nk cd (zokC S nk b (nI dr) w fl)) k M s), J)) := by
  intro k
  have hnk := N.2.1
  obtain ⟨st, st1, st2, es⟩ := zk_g2 N O hb
  obtain ⟨le, le1, le2, el⟩ := zk_g3 N O hb
  obtain ⟨o, ho, eo⟩ := zk_g1 N O hb
  obtain ⟨wa, hw, ew⟩ := zk_g4 N O hb
  have h3 : ¬ S (6 + 7 * b + 2) < 1 := by
    rw [es]
    intro q
    have := (nI_ltI (b := 1) (by omega) (by decide)).mp q
    omega
  have h4 : ¬ S (6 + 7 * b + 3) < 1 := by
    rw [el]
    intro q
    have := (nI_ltI (b := 1) (by omega) (by decide)).mp q
    omega
  have hf : ∀ i, i < nk → zhv S i = nI ((zhv S i).toNatClampNeg) ∧ (zhv S i).toNatClampNeg ≤ 108 := fun i hi => by
    obtain ⟨d, d1, d2, ed⟩ := z_hv0 N O hi
    rw [ed, ztnn (by omega)]
    exact ⟨rfl, d2⟩
  have lN : ∀ p, zsum (zhv S) p (S (6 + 7 * b + 1) + S (6 + 7 * b + 4)) nk = nI (o + wa + zsN (fun k => (zhv S k).toNatClampNeg) p nk) ∧ o + wa + zsN (fun k => (zhv S k).toNatClampNeg) p nk ≤ 21294 := fun p => by
    rw [eo, ew, nI_add, zsum_nI nk (fun i hi => (hf i hi).1)]
    have h := zsN_le (f := fun k => (zhv S k).toNatClampNeg) (p := p) (c := 108) nk (fun i hi => (hf i hi).2)
    exact ⟨rfl, by omega⟩
  have hds : dr * st ≤ 9999 * 99 := Nat.mul_le_mul hdr st2
  have eds : nI dr * nI st = nI (dr * st) := (Int32.ofNat_mul dr st).symm
  -- too heavy: no
  have heavy : ∀ m, dr * st < o + wa + zsN (fun k => (zhv S k).toNatClampNeg) m.testBit nk → zokC S nk b (nI dr) w fl m = false := fun m h => by
    obtain ⟨l1, l2⟩ := lN m.testBit
    have hbd := zsum_bd (f := ztl S b) (p := m.testBit) (a := 0) (c := 756) (A := 0) (by omega) (by omega) (by decide) nk hnk (fun i hi => ztl_b N O hb hi)
    unfold zokC
    rw [l1, es, el, zdr_e (t := (zsum (ztl S b) m.testBit 0 nk).toInt.natAbs) (by omega) (by omega) st1 st2 le1 le2 (by omega)]
    have hq : dr + 1 ≤ (o + wa + zsN (fun k => (zhv S k).toNatClampNeg) m.testBit nk + st - 1) / st := by
      rw [Nat.le_div_iff_mul_le (by omega), Nat.add_mul]
      omega
    have h1 := Nat.div_le_self (o + wa + zsN (fun k => (zhv S k).toNatClampNeg) m.testBit nk + st - 1) st
    have h2 := Nat.div_le_self (zsum (ztl S b) m.testBit 0 nk).toInt.natAbs le
    generalize (o + wa + zsN (fun k => (zhv S k).toNatClampNeg) m.testBit nk + st - 1) / st = A at hq h1 ⊢
    generalize (zsum (ztl S b) m.testBit 0 nk).toInt.natAbs / le = B at h2 ⊢
    rw [decide_eq_false (p := nI _ = nI dr) (fun e => by have := znI (by omega) (by omega) e; omega), Bool.and_false]
  induction k with
  | zero =>
    intro M s hk hs
    obtain ⟨l1, l2⟩ := lN (zms 0 M)
    have hsb : zsb nk cd M = true := decide_eq_true (fun i hi h => hs i hi (by rw [zms_0]; exact h))
    rw [t_qc_search, zCh_o (by omega), zCh_o (by omega), e4, e2]
    show _ = some (none, (zSC σ, zCh I0 (zcst nk cd (zokC S nk b (nI dr) w fl) s M), J))
    unfold zcst
    rw [hsb, Bool.true_and]
    by_cases q : dr * st < o + wa + zsN (fun k => (zhv S k).toNatClampNeg) (zms 0 M) nk
    · rw [if_pos (by rw [es, eds, l1]; exact nI_lt q (by omega)), heavy M (by rw [zms_0] at q; exact q), if_neg (by decide)]
    · rw [if_neg (by rw [es, eds, l1]; exact fun h => q ((nI_ltI (by omega) (by omega)).mp h)), if_pos (show nI 0 - 1 < 0 by decide), zms_0, Nat.pow_zero, Nat.mul_one]
      have := cs_leaf (d := 2 + 0) (x2 := zsum (zhv S) M.testBit (S (6 + 7 * b + 1) + S (6 + 7 * b + 4)) nk) (x3 := zsum (ztl S b) M.testBit 0 nk) (x4 := nI M) (σ := σ) (J := J) (s := s) (by omega) e2 e3 e4 e5 e6 h3 h4
      rw [zCh_o (k := 2) (by omega), e2] at this
      exact this
  | succ k ih =>
    intro M s hk hs
    obtain ⟨l1, l2⟩ := lN (zms (k + 1) M)
    rw [t_qc_search, zCh_o (by omega), zCh_o (by omega), e4, e2]
    by_cases q : dr * st < o + wa + zsN (fun k => (zhv S k).toNatClampNeg) (zms (k + 1) M) nk
    · rw [if_pos (by rw [es, eds, l1]; exact nI_lt q (by omega)), zdfs_id]
      intro m em
      subst em
      have m1 : zsN (fun k => (zhv S k).toNatClampNeg) (zms (k + 1) (m / 2 ^ (k + 1))) nk ≤ zsN (fun k => (zhv S k).toNatClampNeg) m.testBit nk := zsN_mono nk (fun i hi h => by
        rw [zms_div] at h
        exact (Bool.and_eq_true_iff.mp h).2)
      unfold zcst
      rw [heavy m (by omega), Bool.and_false, if_neg (by decide)]
    · have ek : nI (k + 1) - 1 = nI k := by rw [← nI_1]; exact Int32.add_sub_cancel _ _
      rw [if_neg (by rw [es, eds, l1]; exact fun h => q ((nI_ltI (by omega) (by omega)).mp h)), ek, if_neg (znn (by omega)), if_pos (show nI k < (12 : Int32) from nI_lt (b := 12) (by omega) (by decide)), a_cs (by omega) (by omega)]
      have i0 := ih (2 * M) s (by omega) (fun i hi h => hs i hi (by rw [zms_even] at h; exact h))
      rw [zms_even, show 2 * M * 2 ^ k = M * 2 ^ (k + 1) by rw [Nat.pow_succ, Nat.mul_comm 2 M, Nat.mul_assoc, Nat.mul_comm 2]] at i0
      rw [i0, zkV_s, zif_n (by omega) (by omega), ztnn (by omega), zCh_r (by decide), zCh_r (by decide)]
      obtain ⟨f0, f1⟩ := F k (by omega)
      rw [f0, f1]
      by_cases qa : cd k = true
      · obtain ⟨d, d1, d2, ed⟩ := z_hv0 N O (show k < nk by omega)
        have i1 := ih (2 * M + 1) (zdfs (zcst nk cd (zokC S nk b (nI dr) w fl)) k (2 * M) s) (by omega) (fun i hi h => by
          rw [zms_odd] at h
          by_cases e : i = k
          · subst e
            exact qa
          · rw [if_neg e] at h
            exact hs i hi h)
        have fl' : ∀ i, i ≠ k → zms (k + 1) M i = zms k (2 * M + 1) i := fun i h => by rw [zms_odd, if_neg h]
        have fk : zms k (2 * M + 1) k = true := by rw [zms_odd, if_pos rfl]
        rw [zsum_flip (zms_at k M) fk fl' nk (by omega), zsum_flip (zms_at k M) fk fl' nk (by omega), ← z_or1 (by omega), show 2 * M * 2 ^ k = M * 2 ^ (k + 1) by rw [Nat.pow_succ, Nat.mul_comm 2 M, Nat.mul_assoc, Nat.mul_comm 2]] at i1
        rw [if_pos qa, if_pos qa, ed, if_pos (show (0 : Int32) < nI d from nI_lt (a := 0) (by omega) (by omega)), zif_n (by omega) (by omega), zif_n (by omega) (by omega), a_cs (by omega) (by omega), ← ed, i1, zkV_s]
        rfl
      · rw [if_neg qa, if_neg (show ¬ (0 : Int32) < 0 by decide)]
        show _ = some (none, (zSC σ, zCh I0 (zdfs _ k (2 * M + 1) (zdfs _ k (2 * M) s)), J))
        rw [zdfs_id _ k (2 * M + 1)]
        intro m em
        unfold zcst
        rw [if_neg]
        intro h
        have h1 := of_decide_eq_true (Bool.and_eq_true_iff.mp h).1 k (by omega)
        have h2 := zms_div (k := k) (m := m) k
        rw [em, zms_odd, if_pos rfl, decide_eq_true (Nat.le_refl k), Bool.true_and] at h2
        exact qa (h1 h2.symm)
