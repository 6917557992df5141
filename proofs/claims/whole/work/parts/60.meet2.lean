/-! ===== meeting: the reference, and both ===== -/
theorem zsum_swap {f : Nat → Int32} {p o q : Nat → Bool} {a : Int32} : ∀ n, (∀ i, i < n → q i = true → (p i || o i) = true) → (∀ i, i < n → p i = true → o i = false) → zsum f (fun i => (p i && !q i) || (o i && q i)) a n = zsum (fun i => if p i = true then -(f i) else f i) q (zsum f p a n) n
  | 0, _, _ => rfl
  | n + 1, h, g => by
    have ih := zsum_swap (f := f) (a := a) n (fun i hi => h i (by omega)) (fun i hi => g i (by omega))
    have h' := h n (by omega)
    have g' := g n (by omega)
    by_cases hp : p n = true
    · have ho := g' hp
      by_cases hq : q n = true
      · rw [zsum_z (by simp [hp, ho, hq]), zsum_t hq, zsum_t hp, zsum_sh, ih, if_pos hp]
        grind
      · rw [zsum_t (by simp [hp, hq]), zsum_z hq, zsum_t hp, zsum_sh, ih]
    · by_cases hq : q n = true
      · have ho : o n = true := by
          have := h' hq
          rw [Bool.eq_false_iff.mpr hp, Bool.false_or] at this
          exact this
        rw [zsum_t (by simp [ho, hq]), zsum_t hq, zsum_z hp, ih, if_neg hp]
      · rw [zsum_z (by simp [hp, hq]), zsum_z hq, zsum_z hp, ih]
theorem zab_no {S : Nat → Int32} {k : Nat} (h : zab S 0 k = true) : zab S 1 k = false := by
  unfold zab at *
  have h1 := of_decide_eq_true h
  rw [h1]
  decide
/-- what is aboard of one when a set has changed sides -/
theorem z_swap0 {nk m : Nat} {S : Nat → Int32} (hn : nk ≤ 12) (f : Nat → Int32) (a : Int32) (hs : zsb nk (fun i => zab S 0 i || zab S 1 i) m = true) : zsum f (bt ((zset (zab S 0) nk &&& (nI m ^^^ (-1))) ||| (zset (zab S 1) nk &&& nI m))) a nk = zsum (fun i => -(zsg S i (f i))) m.testBit (zsum f (bt (zset (zab S 0) nk)) a nk) nk := by
  have hs' := of_decide_eq_true hs
  have e1 : zsum f (bt ((zset (zab S 0) nk &&& (nI m ^^^ (-1))) ||| (zset (zab S 1) nk &&& nI m))) a nk = zsum f (fun i => (zab S 0 i && !m.testBit i) || (zab S 1 i && m.testBit i)) a nk := zsum_congr nk (fun i hi => ⟨by rw [b_or, b_and, b_and, b_not (by omega), bt_all hn _ hi, bt_all hn _ hi, bt_nI (by omega)], fun _ => rfl⟩)
  have e2 : zsum f (bt (zset (zab S 0) nk)) a nk = zsum f (zab S 0) a nk := zsum_congr nk (fun i hi => ⟨bt_all hn _ hi, fun _ => rfl⟩)
  rw [e1, e2, zsum_swap nk (fun i hi h => hs' i hi h) (fun i hi h => zab_no h)]
  refine zsum_congr nk (fun i hi => ⟨rfl, fun h => ?_⟩)
  have h2 : (zab S 0 i || zab S 1 i) = true := hs' i hi h
  unfold zsg
  by_cases h0 : zab S 0 i = true
  · rw [if_pos h0, if_pos h0]
  · rw [Bool.eq_false_iff.mpr h0, Bool.false_or] at h2
    rw [if_neg h0, if_neg h0, if_pos h2, Int32.neg_neg]
theorem z_swap1 {nk m : Nat} {S : Nat → Int32} (hn : nk ≤ 12) (f : Nat → Int32) (a : Int32) (hs : zsb nk (fun i => zab S 0 i || zab S 1 i) m = true) : zsum f (bt ((zset (zab S 1) nk &&& (nI m ^^^ (-1))) ||| (zset (zab S 0) nk &&& nI m))) a nk = zsum (fun i => zsg S i (f i)) m.testBit (zsum f (bt (zset (zab S 1) nk)) a nk) nk := by
  have hs' := of_decide_eq_true hs
  have e1 : zsum f (bt ((zset (zab S 1) nk &&& (nI m ^^^ (-1))) ||| (zset (zab S 0) nk &&& nI m))) a nk = zsum f (fun i => (zab S 1 i && !m.testBit i) || (zab S 0 i && m.testBit i)) a nk := zsum_congr nk (fun i hi => ⟨by rw [b_or, b_and, b_and, b_not (by omega), bt_all hn _ hi, bt_all hn _ hi, bt_nI (by omega)], fun _ => rfl⟩)
  have e2 : zsum f (bt (zset (zab S 1) nk)) a nk = zsum f (zab S 1) a nk := zsum_congr nk (fun i hi => ⟨bt_all hn _ hi, fun _ => rfl⟩)
  rw [e1, e2, zsum_swap nk (fun i hi h => by have := hs' i hi h; rw [Bool.or_comm]; exact this) (fun i hi h => by
    by_cases q : zab S 0 i = true
    · rw [zab_no q] at h
      cases h
    · exact Bool.eq_false_iff.mpr q)]
  refine zsum_congr nk (fun i hi => ⟨rfl, fun h => ?_⟩)
  have h2 : (zab S 0 i || zab S 1 i) = true := hs' i hi h
  unfold zsg
  by_cases h0 : zab S 0 i = true
  · rw [if_pos h0, if_neg (by rw [zab_no h0]; decide)]
  · rw [Bool.eq_false_iff.mpr h0, Bool.false_or] at h2
    rw [if_neg h0, if_pos h2, if_pos h2]
theorem p_passBy {nb nk ns nr nh d s b : Nat} {I : zTI} {J : zTJ} {C : Nat → Int32} (G : zGood nb nk ns nr nh C (I 10)) (hd : d ≤ 9999) (ed : I 10 5 = nI d) (hin : I 0 23 = 0) (hb : b < nb) (hs : s < ns) (set : Int32) : qm_passesBy (nI b) set (nI s) I J = some (some (.int (if zde C d s < zdrB (I 10) nk b set then 0 else 1)), (zSM, I, J)) := by
  obtain ⟨⟨n0, n1, n2, n3, n4⟩, ⟨s0, s1, s2, s3, s4⟩, -, -, -, -, hT, -⟩ := id G.1
  obtain ⟨n, g1, g4, en, ej⟩ := hT s hs
  obtain ⟨g2, g3⟩ := G.wb.1 b hb
  rw [p_passesBy (s := s) (d := d) (n := n) (by omega) (by omega) ed g1 g4 en (by omega) n1 s1 (fun e => g2 (by rw [e]; decide)) (fun e => g3 (by rw [e]; decide)), hin, z_add0]
  unfold zde
  rw [ej _ (by omega)]
/-- may a set change sides -/
def zok2 (C S : Nat → Int32) (nk ns d a m : Nat) : Bool := (decide (ns ≤ a + 1) || !decide (zde C d (a + 1) < zdrB S nk 0 ((zset (zab S 0) nk &&& (nI m ^^^ (-1))) ||| (zset (zab S 1) nk &&& nI m)))) && (decide (a = 0) || !decide (zde C d (a - 1) < zdrB S nk 1 ((zset (zab S 1) nk &&& (nI m ^^^ (-1))) ||| (zset (zab S 0) nk &&& nI m))))
theorem p_ok2 {nk ns nr nh d a m : Nat} {I : zTI} {J : zTJ} {C : Nat → Int32} (G : zGood 2 nk ns nr nh C (I 10)) (hd : d ≤ 9999) (ed : I 10 5 = nI d) (hin : I 0 23 = 0) (ha : a < ns) (Y X : zTI → zTJ → Option zR) : (zkI (qm_isStop (nI a + 1) I J) zSM (fun r3 I1 J2 => (if r3 = 0 then (if nI a = 0 then Y I1 J2 else (zkI (qm_passesBy 1 ((zset (zab (I 10) 1) nk &&& (nI m ^^^ (-1))) ||| (zset (zab (I 10) 0) nk &&& nI m)) (nI a - 1) I1 J2) zSM (fun r6 I4 J5 => (if r6 = 0 then X I4 J5 else Y I4 J5)))) else (zkI (qm_passesBy 0 ((zset (zab (I 10) 0) nk &&& (nI m ^^^ (-1))) ||| (zset (zab (I 10) 1) nk &&& nI m)) (nI a + 1) I1 J2) zSM (fun r9 I7 J8 => (if r9 = 0 then X I7 J8 else (if nI a = 0 then Y I7 J8 else (zkI (qm_passesBy 1 ((zset (zab (I 10) 1) nk &&& (nI m ^^^ (-1))) ||| (zset (zab (I 10) 0) nk &&& nI m)) (nI a - 1) I7 J8) zSM (fun r12 I10 J11 => (if r12 = 0 then X I10 J11 else Y I10 J11)))))))))) = if zok2 C (I 10) nk ns d a m = true then Y I J else X I J := by
  obtain ⟨⟨n0, n1, n2, n3, n4⟩, ⟨s0, s1, s2, s3, s4⟩, -⟩ := id G.1
  unfold zok2
  have back : (if nI a = 0 then Y I J else (zkI (qm_passesBy 1 ((zset (zab (I 10) 1) nk &&& (nI m ^^^ (-1))) ||| (zset (zab (I 10) 0) nk &&& nI m)) (nI a - 1) I J) zSM (fun r6 I4 J5 => (if r6 = 0 then X I4 J5 else Y I4 J5)))) = if (decide (a = 0) || !decide (zde C d (a - 1) < zdrB (I 10) nk 1 ((zset (zab (I 10) 1) nk &&& (nI m ^^^ (-1))) ||| (zset (zab (I 10) 0) nk &&& nI m)))) = true then Y I J else X I J := by
    by_cases q : a = 0
    · subst q
      rw [if_pos (show nI 0 = 0 from rfl)]
      rfl
    · have e : nI a - 1 = nI (a - 1) := by
        rw [show nI a = nI (a - 1) + 1 by rw [nI_1, show a - 1 + 1 = a by omega]]
        exact Int32.add_sub_cancel _ _
      rw [if_neg (show ¬ nI a = 0 from fun h => q (znI (b := 0) (by omega) (by decide) h)), e, show ∀ x y I, qm_passesBy 1 x y I J = qm_passesBy (nI 1) x y I J from fun _ _ _ => rfl, p_passBy G hd ed hin (show 1 < 2 by omega) (show a - 1 < ns by omega), zkI_s, decide_eq_false q, Bool.false_or]
      by_cases q2 : zde C d (a - 1) < zdrB (I 10) nk 1 ((zset (zab (I 10) 1) nk &&& (nI m ^^^ (-1))) ||| (zset (zab (I 10) 0) nk &&& nI m))
      · rw [if_pos q2, if_pos rfl, decide_eq_true q2]; rfl
      · rw [if_neg q2, if_neg z10, decide_eq_false q2]; rfl
  rw [nI_1]
  by_cases q : a + 1 < ns
  · rw [q1Stop s2 n2 q, zkI_s, if_neg z10, show ∀ x y I, qm_passesBy 0 x y I J = qm_passesBy (nI 0) x y I J from fun _ _ _ => rfl, p_passBy G hd ed hin (show 0 < 2 by omega) q, zkI_s, decide_eq_false (show ¬ ns ≤ a + 1 by omega), Bool.false_or]
    by_cases q2 : zde C d (a + 1) < zdrB (I 10) nk 0 ((zset (zab (I 10) 0) nk &&& (nI m ^^^ (-1))) ||| (zset (zab (I 10) 1) nk &&& nI m))
    · rw [if_pos q2, if_pos rfl, decide_eq_true q2, Bool.not_true, Bool.false_and, if_neg (by decide)]
    · rw [if_neg q2, if_neg z10, back, decide_eq_false q2, Bool.not_false, Bool.true_and]
  · rw [q0Stop s2 (Or.inr ⟨znn (by omega), fun h => q ((nI_ltI (by omega) (by omega)).mp h)⟩), zkI_s, if_pos rfl, back, decide_eq_true (show ns ≤ a + 1 by omega), Bool.true_or, Bool.true_and]
set_option maxHeartbeats 2000000 in
theorem p_meetM {nk ns nr nh dy a : Nat} {I : zTI} {J : zTJ} {C : Nat → Int32} (G : zGood 2 nk ns nr nh C (I 10)) (hd : dy ≤ 9999) (ed : I 10 5 = nI dy) (hin : I 0 23 = 0) (ha : a < ns) : ∀ d m, m + d = 2 ^ nk → qm_meeting_50 (zset (zab (I 10) 0) nk) (zset (zab (I 10) 1) nk) (nI a) (zM6 (zfo (zlst nk (fun i => zab (I 10) 0 i || zab (I 10) 1 i) (fun _ => 0) (zok2 C (I 10) nk ns dy a)) 0 m none)) (nI m) I J = some (some (.int (zM6 (zfo (zlst nk (fun i => zab (I 10) 0 i || zab (I 10) 1 i) (fun _ => 0) (zok2 C (I 10) nk ns dy a)) 0 (2 ^ nk) none))), (zSM, I, J)) := by
  obtain ⟨⟨n0, n1, n2, n3, n4⟩, ⟨s0, s1, s2, s3, s4⟩, -⟩ := id G.1
  have hp := z_pow12 n1
  have eor : zset (zab (I 10) 0) nk ||| zset (zab (I 10) 1) nk = zset (fun i => zab (I 10) 0 i || zab (I 10) 1 i) nk := by
    apply b_ext
    intro i hi
    rw [b_or, b_zset _ nk (by omega) i hi, b_zset _ nk (by omega) i hi, b_zset _ nk (by omega) i hi, Bool.and_or_distrib_left]
  intro d
  induction d with
  | zero =>
    intro m e
    have em : m = 2 ^ nk := by omega
    subst em
    rw [t_qm_meeting_50, s1, z_2nk n1, if_neg (fun q => by have := (nI_ltI (by omega) (by omega)).mp q; omega)]
  | succ d ih =>
    intro m e
    have hm : m < 2 ^ nk := by omega
    have hl := zlst_lt (nk := nk) (ab := (fun i => zab (I 10) 0 i || zab (I 10) 1 i)) (w := (fun _ => 0)) (ok := zok2 C (I 10) nk ns dy a) m
    have i1 := ih (m + 1) (by omega)
    have es : zfo (zlst nk (fun i => zab (I 10) 0 i || zab (I 10) 1 i) (fun _ => 0) (zok2 C (I 10) nk ns dy a)) 0 (m + 1) none = zlst nk (fun i => zab (I 10) 0 i || zab (I 10) 1 i) (fun _ => 0) (zok2 C (I 10) nk ns dy a) (zfo (zlst nk (fun i => zab (I 10) 0 i || zab (I 10) 1 i) (fun _ => 0) (zok2 C (I 10) nk ns dy a)) 0 m none) m := by
      show zlst _ _ _ _ (zfo _ 0 m none) (0 + m) = _
      rw [Nat.zero_add]
    rw [es] at i1
    rw [t_qm_meeting_50, s1, z_2nk n1, if_pos (nI_lt hm (by omega)), eor]
    rw [show ∀ y, qm_meeting_50 (zset (zab (I 10) 0) nk) (zset (zab (I 10) 1) nk) (nI a) y (nI m + 1) I J = qm_meeting_50 (zset (zab (I 10) 0) nk) (zset (zab (I 10) 1) nk) (nI a) y (nI (m + 1)) I J from fun y => by rw [nI_1]]
    generalize zfo (zlst nk (fun i => zab (I 10) 0 i || zab (I 10) 1 i) (fun _ => 0) (zok2 C (I 10) nk ns dy a)) 0 m none = s at i1 hl ⊢
    generalize zM6 (zfo (zlst nk (fun i => zab (I 10) 0 i || zab (I 10) 1 i) (fun _ => 0) (zok2 C (I 10) nk ns dy a)) 0 (2 ^ nk) none) = fin at i1 ⊢
    unfold zlst at i1
    simp only [zwt_0] at i1
    by_cases hsb : zsb nk (fun i => zab (I 10) 0 i || zab (I 10) 1 i) m = true
    · rw [if_pos hsb] at i1
      rw [if_pos ((z_sub n1 hm _).mpr hsb)]
      cases s with
      | none =>
        rw [show zM6 none = -2 from rfl, if_pos (show (-2 : Int32) < 0 by decide), p_ok2 G hd ed hin ha (fun I2 J => qm_meeting_50 (zset (zab (I 10) 0) nk) (zset (zab (I 10) 1) nk) (nI a) (nI m) (nI m + 1) I2 J) (fun I2 J => qm_meeting_50 (zset (zab (I 10) 0) nk) (zset (zab (I 10) 1) nk) (nI a) (-2) (nI m + 1) I2 J)]
        simp only [nI_1] at i1 ⊢
        by_cases q : zok2 C (I 10) nk ns dy a m = true
        · rw [if_pos q] at i1 ⊢
          exact i1
        · rw [if_neg q] at i1 ⊢
          exact i1
      | some q =>
        have hq := hl q rfl
        have c1 := zcnt_le m.testBit nk
        have c2 := zcnt_le q.testBit nk
        rw [show zM6 (some q) = nI q from rfl, if_neg (znn (by omega)), p_bits (by omega), zkI_s, p_bits (by omega), zkI_s, zcnt_12 n1 hm, zcnt_12 n1 (by omega)]
        simp only at i1
        by_cases h3 : zsz_ nk m < zsz_ nk q
        · rw [if_pos (show nI (zcnt m.testBit nk) < nI (zcnt q.testBit nk) from nI_lt h3 (by omega)), p_ok2 G hd ed hin ha (fun I2 J => qm_meeting_50 (zset (zab (I 10) 0) nk) (zset (zab (I 10) 1) nk) (nI a) (nI m) (nI m + 1) I2 J) (fun I2 J => qm_meeting_50 (zset (zab (I 10) 0) nk) (zset (zab (I 10) 1) nk) (nI a) (nI q) (nI m + 1) I2 J)]
          rw [if_neg (fun h => h.elim (by omega) (fun h => h.2 h3))] at i1
          simp only [nI_1] at i1 ⊢
          by_cases q' : zok2 C (I 10) nk ns dy a m = true
          · rw [if_pos q'] at i1 ⊢
            exact i1
          · rw [if_neg q'] at i1 ⊢
            exact i1
        · rw [if_neg (show ¬ nI (zcnt m.testBit nk) < nI (zcnt q.testBit nk) from fun h => h3 ((nI_ltI (a := zcnt m.testBit nk) (b := zcnt q.testBit nk) (by omega) (by omega)).mp h))]
          rw [if_pos (Or.inr ⟨trivial, h3⟩)] at i1
          rw [nI_1]
          exact i1
    · rw [if_neg hsb] at i1
      rw [if_neg (fun h => hsb ((z_sub n1 hm _).mp h))]
      exact i1
