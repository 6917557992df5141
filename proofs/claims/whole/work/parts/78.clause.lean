/-! ===== a rule in both ===== -/
theorem znv_take : ∀ (n : Nat) (l : List Nat), znv (l.take n) ≤ znv l
  | 0, l => Nat.zero_le _
  | n + 1, [] => Nat.le_refl _
  | n + 1, t :: l => by
    have := znv_take n l
    show (if t < 200000 then 1 else 0) + znv (l.take n) ≤ (if t < 200000 then 1 else 0) + znv l
    omega
theorem znv_drop : ∀ (n : Nat) (l : List Nat), znv (l.drop n) ≤ znv l
  | 0, l => Nat.le_refl _
  | n + 1, [] => Nat.le_refl _
  | n + 1, t :: l => by
    have := znv_drop n l
    show znv (l.drop n) ≤ (if t < 200000 then 1 else 0) + znv l
    omega
theorem znv_sg (L : List Nat) (i e : Nat) : znv (zsg_ L i e) ≤ znv L := Nat.le_trans (znv_take _ _) (znv_drop _ _)
def zRl (tt q cq lq sq : Nat) (sh : List zE) (I I' : zTI) (L : List Nat) (nc : Nat) (kd shf ss ts te : Nat → Nat) : Prop :=
  zRS sh q cq lq sq L.length (5 * nc) ∧ L.length ≤ 400 ∧ nc ≤ 12 ∧ (∀ j, j < L.length → I cq j = nI (L[j]?.getD 0)) ∧ (∀ j, j < L.length → I' 2 (400 * tt + j) = nI (zsgn (L[j]?.getD 0))) ∧ (∀ t, t ∈ L → zvt t) ∧
  (∀ c, c < nc → I lq (5 * c + 0) = nI (kd c) ∧ I lq (5 * c + 1) = nI (shf c) ∧ I lq (5 * c + 2) = nI (ss c) ∧ I lq (5 * c + 3) = nI (ts c) ∧ I lq (5 * c + 4) = nI (te c)) ∧
  I' 5 tt = nI nc ∧ (∀ c, c < nc → I' 4 (60 * tt + 5 * c) = nI (kd c) ∧ (kd c = 0 → I' 4 (60 * tt + 5 * c + 1) = nI (ss c) ∧ I' 4 (60 * tt + 5 * c + 2) = nI (ts c)) ∧ (kd c = 2 → I' 4 (60 * tt + 5 * c + 1) = nI (shf c)) ∧ I' 4 (60 * tt + 5 * c + 3) = (if ts c = te c then -1 else nI (ts c)) ∧ I' 4 (60 * tt + 5 * c + 4) = nI (te c)) ∧
  (∀ c, c < nc → kd c ≤ 2 ∧ shf c ≤ 7 ∧ (kd c ≠ 2 → shf c = 0) ∧ ts c ≤ te c ∧ te c ≤ L.length ∧ (ts c ≠ te c → zty (zsg_ L (ts c) (te c)) [] = some [true]) ∧ (kd c = 0 → ss c ≤ ts c ∧ zty (zsg_ L (ss c) (ts c)) [] = some [false])) ∧ znv L ≤ 60
theorem p_part {sh : List zE} {q cq lq sq n nc c j : Nat} {I : zTI} {J : zTJ} {y : Int32} (R : zRS sh q cq lq sq n (5 * nc)) (hy : y = nI j) (hc : c < nc) (hj : j < 5) (hn : nc ≤ 12) : ql_part q (nI c) y sh I J = some (some (.int (I lq (5 * c + j))), (sh, I, J)) := by
  obtain ⟨k0, rf, r1, r2, r3, r4, hq, hr0, hr1, hr2, hcq, hl, hs, h18, hne⟩ := R
  subst hy
  have e : nI c * 5 + nI j = nI (5 * c + j) := by
    rw [show nI c * 5 = nI (5 * c) from by rw [Nat.mul_comm]; exact (Int32.ofNat_mul c 5).symm, nI_add]
  rw [t_ql_part, e, if_neg (znn (by omega)), zob_s hq, hr1, zrf_so, zal_s hl rfl, if_pos (show nI (5 * c + j) < Int32.ofNat (5 * nc) from nI_lt (by omega) (by omega)), zob_s hq, hr1, zrf_so, zar_s hl, zif_n (by omega) (by omega), ztnn (by omega)]
theorem z_605 {tt c : Nat} : (60 : Int32) * nI tt + 5 * nI c = nI (60 * tt + 5 * c) := by
  rw [show (60 : Int32) * nI tt = nI (60 * tt) from (Int32.ofNat_mul 60 tt).symm, show (5 : Int32) * nI c = nI (5 * c) from (Int32.ofNat_mul 5 c).symm, nI_add]
theorem lg_1 {x : Int64} : lg_cmp x 1 = 0 ↔ x = 1 := by
  unfold lg_cmp
  by_cases h1 : x > 1
  · rw [if_pos h1]
    exact ⟨fun h => absurd h (by decide), fun h => by subst h; exact absurd h1 (by decide)⟩
  · rw [if_neg h1]
    by_cases h2 : x = 1
    · rw [if_pos h2]
      exact ⟨fun _ => h2, fun _ => rfl⟩
    · rw [if_neg h2]
      exact ⟨fun h => absurd h (by decide), fun h => absurd h h2⟩
/-- which clause: in the class, in the reference -/
def zcA1 : Option Nat → Int32
  | none => -1
  | some c => nI c
def zcB2 (tt : Nat) : Option Nat → Int32
  | none => -1
  | some c => nI (60 * tt + 5 * c)
set_option maxHeartbeats 8000000 in
theorem p_first {tt q cq lq sq nb nk ns nr nh b κ : Nat} {sh : List zE} {I I'0 : zTI} {C : Nat → Int32} {L : List Nat} {nc : Nat} {kd shf ss ts te : Nat → Nat} {w : Nat → Int64} {x2 : Int32} (htt : tt < 6) (Rl : zRl tt q cq lq sq sh I I'0 L nc kd shf ss ts te) (G : zGood nb nk ns nr nh C (I'0 10)) (hb : b < nb) (hκ : κ ≤ 2) (hx : (κ = 2 ∧ x2 = I'0 10 (6 + 7 * b + 0)) ∨ (κ ≠ 2 ∧ x2 = 1)) :
    ∀ (m c : Nat) (J : zTJ) (I' : zTI) (J' : zTJ), c + m = nc → zKr I'0 I' → (∀ k, k < 12 → J 18 k = w k) → (∀ k, k < 12 → J' 9 k = w k) → ∃ (o : Option Nat) (J1 : zTJ) (I1' : zTI) (J1' : zTJ), ql_firstClause_3 q (nI κ) x2 (nI c) sh I J = some (some (.int (zcA1 o)), (sh, I, J1)) ∧ qm_clauseFor_10 (nI tt) (nI κ) (nI b) (nI c) I' J' = some (some (.int (zcB2 tt o)), (zSM, I1', J1')) ∧ (∀ c', o = some c' → c' < nc ∧ kd c' = κ ∧ (κ = 2 → nI (shf c') < I'0 10 (6 + 7 * b + 0))) ∧ (∀ r, r ≠ sq → J1 r = J r) ∧ zKr I'0 I1' ∧ (∀ r, r ≠ 8 → J1' r = J' r) := by
  obtain ⟨R, hL, hnc, hcI, hsI, hvt, hlI, h5, h4, hwf, hnv⟩ := id Rl
  obtain ⟨k0, rf, r1, r2, r3, r4, hq, hr0, hr1, hr2, hcq, hl, hs, h18, hne⟩ := id R
  obtain ⟨⟨n0, n1, n2, n3, n4⟩, ⟨s0, s1, s2, s3, s4⟩, -⟩ := id G.1
  have hdiv : Int32.ofNat (5 * nc) / 5 = nI nc := by
    rw [show Int32.ofNat (5 * nc) / 5 = nI (5 * nc / 5) from pk_div (a := 5 * nc) (d := 5) (by omega) (by omega) (by omega), show 5 * nc / 5 = nc by omega]
  intro m
  induction m with
  | zero =>
    intro c J I' J' ec hK hw hw'
    have ec' : c = nc := by omega
    subst ec'
    have hno : ¬ nI c < nI c := fun h => by have := (nI_ltI (by omega) (by omega)).mp h; omega
    rw [t_ql_firstClause_3, zob_s hq, hr1, zrf_so, zal_s hl rfl, hdiv, if_neg hno, t_qm_clauseFor_10, zif_n (by omega) (by omega), ztnn (by omega), hK.1 5 (by decide), h5, if_neg hno]
    exact ⟨none, J, I', J', rfl, rfl, (fun c' h => by cases h), fun _ _ => rfl, hK, fun _ _ => rfl⟩
  | succ m ih =>
    intro c J I' J' ec hK hw hw'
    have hc : c < nc := by omega
    have hyes : nI c < nI nc := nI_lt hc (by omega)
    obtain ⟨l0, l1, l2, l3, l4⟩ := hlI c hc
    obtain ⟨g0, g1, g2, g3, g4⟩ := h4 c hc
    obtain ⟨f0, f1, f2, f3, f4, f5, f6⟩ := hwf c hc
    have i4 : I' 4 = I'0 4 := hK.1 4 (by decide)
    rw [t_ql_firstClause_3, zob_s hq, hr1, zrf_so, zal_s hl rfl, hdiv, if_pos hyes, zob_s hq, p_part (y := 0) (j := 0) R rfl hc (by omega) hnc, zkI_s, l0, t_qm_clauseFor_10, zif_n (by omega) (by omega), ztnn (by omega), hK.1 5 (by decide), h5, if_pos hyes, z_605, zif_n (by omega) (by omega), ztnn (by omega), i4, g0, show nI c + 1 = nI (c + 1) from nI_add c 1]
    have next : ∃ (o : Option Nat) (J1 : zTJ) (I1' : zTI) (J1' : zTJ), ql_firstClause_3 q (nI κ) x2 (nI (c + 1)) sh I J = some (some (.int (zcA1 o)), (sh, I, J1)) ∧ qm_clauseFor_10 (nI tt) (nI κ) (nI b) (nI (c + 1)) I' J' = some (some (.int (zcB2 tt o)), (zSM, I1', J1')) ∧ (∀ c', o = some c' → c' < nc ∧ kd c' = κ ∧ (κ = 2 → nI (shf c') < I'0 10 (6 + 7 * b + 0))) ∧ (∀ r, r ≠ sq → J1 r = J r) ∧ zKr I'0 I1' ∧ (∀ r, r ≠ 8 → J1' r = J' r) := ih (c + 1) J I' J' (by omega) hK hw hw'
    by_cases qk : kd c = κ
    · rw [if_pos (by rw [qk]), if_pos (by rw [qk]), zob_s hq, p_part (y := 1) (j := 1) R rfl hc (by omega) hnc, zkI_s, l1]
      -- its test
      have test : (κ = 2 → nI (shf c) < I'0 10 (6 + 7 * b + 0)) → ∃ (o : Option Nat) (J1 : zTJ) (I1' : zTI) (J1' : zTJ), (zob (sh, I, J) q [7] (fun _ => (zkI (ql_part q (nI c) 3 sh I J) sh (fun r12 I10 J11 => (zob (sh, I10, J11) q [7] (fun _ => (zkI (ql_part q (nI c) 4 sh I10 J11) sh (fun r15 I13 J14 => (if r12 = r15 then (some (some (.int (nI c)), (sh, I13, J14))) else (zob (sh, I13, J14) q [7] (fun _ => (zkJ (ql_worked q r12 r15 sh I13 J14) sh (fun r18 I16 J17 => (if lg_cmp r18 0 = 0 then (ql_firstClause_3 q (nI κ) x2 (nI (c + 1)) sh I16 J17) else (some (some (.int (nI c)), (sh, I16, J17))))))))))))))))) = some (some (.int (zcA1 o)), (sh, I, J1)) ∧ (zkI (qm_holds (nI tt) (nI (60 * tt + 5 * c)) I' J') zSM (fun r9 I7 J8 => (if r9 = 0 then (qm_clauseFor_10 (nI tt) (nI κ) (nI b) (nI (c + 1)) I7 J8) else (some (some (.int (nI (60 * tt + 5 * c))), (zSM, I7, J8)))))) = some (some (.int (zcB2 tt o)), (zSM, I1', J1')) ∧ (∀ c', o = some c' → c' < nc ∧ kd c' = κ ∧ (κ = 2 → nI (shf c') < I'0 10 (6 + 7 * b + 0))) ∧ (∀ r, r ≠ sq → J1 r = J r) ∧ zKr I'0 I1' ∧ (∀ r, r ≠ 8 → J1' r = J' r) := by
        intro hsh
        have e3 : nI (60 * tt + 5 * c) + 3 = nI (60 * tt + 5 * c + 3) := nI_add _ 3
        have e4 : nI (60 * tt + 5 * c) + 4 = nI (60 * tt + 5 * c + 4) := nI_add _ 4
        rw [zob_s hq, p_part (y := 3) (j := 3) R rfl hc (by omega) hnc, zkI_s, zob_s hq, p_part (y := 4) (j := 4) R rfl hc (by omega) hnc, zkI_s, l3, l4, t_qm_holds, e3, e4, zif_n (by omega) (by omega), zif_n (by omega) (by omega), zif_n (by omega) (by omega), ztnn (by omega), ztnn (by omega), i4, g3, g4]
        by_cases qt : ts c = te c
        · rw [if_pos (by rw [qt]), if_pos qt, if_pos (show (-1 : Int32) < 0 by decide), zkI_s, if_neg z10]
          exact ⟨some c, J, I', J', rfl, rfl, fun c' h => by cases h; exact ⟨hc, qk, hsh⟩, fun _ _ => rfl, hK, fun _ _ => rfl⟩
        · obtain ⟨J1, v, u1, u2, u3, u4⟩ := p_worked (J := J) (w := w) (τ := true) R hL rfl f3 f4 hcI hvt (f5 qt) (Nat.le_trans (znv_sg _ _ _) hnv) hw
          obtain ⟨I1', J1', v', u1', u2', u3', u4'⟩ := p_reckons (I := I') (J := J') (w := w) (τ := true) (L := L) htt hL f3 f4 (fun j hj => by rw [hK.1 2 (by decide)]; exact hsI j hj) hvt (f5 qt) (Nat.le_trans (znv_sg _ _ _) hnv) hw'
          have ev : v' = v := by
            rw [u2] at u2'
            exact (List.cons.inj u2').1.symm
          subst ev
          rw [if_neg (fun h => qt (znI (by omega) (by omega) h)), zob_s hq, u1, zkJ_s, if_neg qt, if_neg (znn (by omega)), u1', zkJ_s]
          rcases u3 rfl with h | h
          · rw [if_pos (lg_z.mpr h), if_neg (fun h2 => by have := lg_1.mp h2; rw [h] at this; revert this; decide), zkI_s, if_pos rfl]
            obtain ⟨o, J2, I2', J2', d1, d2, d3, d4, d5, d6⟩ := ih (c + 1) J1 I1' J1' (by omega) (hK.tr u3') (fun k hk => by rw [u4 18 (fun h => hne h.symm)]; exact hw k hk) (fun k hk => by rw [u4' 9 (by decide)]; exact hw' k hk)
            exact ⟨o, J2, I2', J2', d1, d2, d3, fun r hr => by rw [d4 r hr, u4 r hr], d5, fun r hr => by rw [d6 r hr, u4' r hr]⟩
          · rw [if_neg (fun h2 => by have := lg_z.mp h2; rw [h] at this; revert this; decide), if_pos (lg_1.mpr h), zkI_s, if_neg z10]
            exact ⟨some c, J1, I1', J1', rfl, rfl, fun c' h => by cases h; exact ⟨hc, qk, hsh⟩, u4, hK.tr u3', u4'⟩
      rcases hx with ⟨h2, rfl⟩ | ⟨h2, rfl⟩
      · have e1 : nI (60 * tt + 5 * c) + 1 = nI (60 * tt + 5 * c + 1) := nI_add _ 1
        have i10 : I' 10 = I'0 10 := hK.1 10 (by decide)
        rw [if_pos (show nI κ = (2 : Int32) by rw [h2]; rfl), e1, zif_n (by omega) (by omega), ztnn (by omega), g2 (by omega), t_qm_isShelf, q1Barge (nb := nb) (by rw [i10]; exact s0) n0 hb, zkI_s, if_neg z10, if_neg (znn (by omega)), pg0 (by omega), zkI_s, i10]
        by_cases ql : nI (shf c) < I'0 10 (6 + 7 * b + 0)
        · rw [if_pos ql, if_pos ql, zkI_s, if_neg z10]
          exact test (fun _ => ql)
        · rw [if_neg ql, if_neg ql, zkI_s, if_pos rfl]
          exact next
      · rw [if_neg (show ¬ nI κ = (2 : Int32) from fun h => h2 (znI (b := 2) (by omega) (by decide) h)), f2 (by omega), if_pos (show nI 0 < (1 : Int32) by decide)]
        exact test (fun h => absurd h h2)
    · rw [if_neg (fun h => qk (znI (by omega) (by omega) h)), if_neg (fun h => qk (znI (by omega) (by omega) h))]
      exact next
