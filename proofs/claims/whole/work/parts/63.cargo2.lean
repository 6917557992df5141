/-! ===== aboard: both ===== -/
/-- a book that could be aboard -/
def zcd (S : Nat → Int32) (b k : Nat) : Bool := !decide (S (20 + 7 * k + 4) = 300) && !decide (S (20 + 7 * k + 4) = 101 - nI b)
theorem zset_ext {p : Nat → Bool} {n : Nat} (h : ∀ k, n ≤ k → p k = false) : ∀ d, zset p (n + d) = zset p n
  | 0 => rfl
  | d + 1 => by
    show (if p (n + d) then _ else zset p (n + d)) = _
    rw [if_neg (by rw [h (n + d) (by omega)]; decide), zset_ext h d]
theorem z_101 {b : Nat} (hb : b < 2) : (101 : Int32) - nI b = 100 + nI (1 - b) := by
  rcases (show b = 0 ∨ b = 1 by omega) with rfl | rfl
  · decide
  · decide
set_option maxHeartbeats 4000000 in
theorem p_note {nb nk ns nr nh b : Nat} {σ : zSg} {J : zTJ} {C S : Nat → Int32} (G : zGood nb nk ns nr nh C S) (hb : b < nb) : ∀ (d k : Nat) (I : zTI), k + d = 12 → I 3 = C → (∀ i, i < k → i < nk → I 39 i = (if zcd S b i then zhv S i else 0) ∧ I 40 i = (if zcd S b i then ztl S b i else 0)) → ∃ I2, qc_noteCandidates_5 (nI b) (zset (fun k => decide (k < nk) && zcd S b k) k) (nI k) σ I J = some (some (.int (zset (fun k => decide (k < nk) && zcd S b k) 12)), (zSC σ, I2, J)) ∧ (∀ i, i ≠ 39 → i ≠ 40 → I2 i = I i) ∧ (∀ i, i < nk → I2 39 i = (if zcd S b i then zhv S i else 0) ∧ I2 40 i = (if zcd S b i then ztl S b i else 0)) := by
  have n0 := G.1.ns.1
  have n1 := G.1.ns.2.1
  obtain ⟨-, -, ⟨c0, c1, c2, c3, c4⟩, cD, hB, hK, -⟩ := id G.1
  intro d
  induction d with
  | zero =>
    intro k I e eC F
    have ek : k = 12 := by omega
    subst ek
    rw [t_qc_noteCandidates_5, if_neg (show ¬ nI 12 < (12 : Int32) by decide)]
    exact ⟨I, rfl, fun _ _ _ => rfl, fun i hi => F i (by omega) hi⟩
  | succ d ih =>
    intro k I e eC F
    subst eC
    rw [t_qc_noteCandidates_5, if_pos (show nI k < (12 : Int32) from nI_lt (b := 12) (by omega) (by decide)), zif_n (by omega) (by omega), ztnn (by omega), pc47 w2 (by omega), zkI_s, zsI_zrI, zrI_ne (b := 3) _ _ (by decide)]
    have nx : ∀ (v1 v2 : Int32), (k < nk → v1 = (if zcd S b k then zhv S k else 0) ∧ v2 = (if zcd S b k then ztl S b k else 0)) → ∃ I2, qc_noteCandidates_5 (nI b) (zset (fun k => decide (k < nk) && zcd S b k) (k + 1)) (nI (k + 1)) σ (zrI (zrI I 39 (upd (I 39) k v1)) 40 (upd (I 40) k v2)) J = some (some (.int (zset (fun k => decide (k < nk) && zcd S b k) 12)), (zSC σ, I2, J)) ∧ (∀ i, i ≠ 39 → i ≠ 40 → I2 i = I i) ∧ (∀ i, i < nk → I2 39 i = (if zcd S b i then zhv S i else 0) ∧ I2 40 i = (if zcd S b i then ztl S b i else 0)) := by
      intro v1 v2 hv
      obtain ⟨I2, f1, f2, f3⟩ := ih (k + 1) (zrI (zrI I 39 (upd (I 39) k v1)) 40 (upd (I 40) k v2)) (by omega) (by rw [zrI_ne _ _ (by decide), zrI_ne _ _ (by decide)]) (fun i hi hi2 => by
        rw [zrI_row, zrI_ne (b := 39) _ _ (by decide), zrI_row]
        by_cases q : i = k
        · subst q
          rw [u_at, u_at]
          exact hv hi2
        · rw [u_no q, u_no q]
          exact F i (by omega) hi2)
      exact ⟨I2, f1, fun i h0 h1 => by rw [f2 i h0 h1, zrI_ne _ _ h1, zrI_ne _ _ h0], f3⟩
    -- no candidate
    have no : (k < nk → zcd S b k = false) → ∃ I2, (zkI (qw_cell 2 23 (nI k) σ (zrI I 39 (upd (I 39) k 0)) J) (zSC σ) (fun r9 I7 J8 => (zkI (qw_shelfOf 2 (nI b) r9 σ I7 J8) (zSC σ) (fun r12 I10 J11 => (zif (zin (nI k) 12) (zkI (qw_arm 2 (nI b) r12 σ I10 J11) (zSC σ) (fun r15 I13 J14 => (zif (zin (nI k) 12) (qc_noteCandidates_5 (nI b) (zset (fun k => decide (k < nk) && zcd S b k) k) (nI k + 1) σ (zsI I13 40 k ((I10 39 k) * r15)) J14))))))))) = some (some (.int (zset (fun k => decide (k < nk) && zcd S b k) 12)), (zSC σ, I2, J)) ∧ (∀ i, i ≠ 39 → i ≠ 40 → I2 i = I i) ∧ (∀ i, i < nk → I2 39 i = (if zcd S b i then zhv S i else 0) ∧ I2 40 i = (if zcd S b i then ztl S b i else 0)) := by
      intro hz
      have ez : zset (fun k => decide (k < nk) && zcd S b k) (k + 1) = zset (fun k => decide (k < nk) && zcd S b k) k := by
        show (if (decide (k < nk) && zcd S b k) = true then _ else zset (fun k => decide (k < nk) && zcd S b k) k) = _
        rw [if_neg]
        by_cases q : k < nk
        · rw [hz q, Bool.and_false]; decide
        · rw [decide_eq_false q, Bool.false_and]; decide
      have := nx 0 0 (fun hk => by rw [hz hk]; exact ⟨rfl, rfl⟩)
      rw [ez] at this
      rw [pc23 w2 (by omega), zkI_s, p_shelfOfW w2 (by omega), zkI_s, zif_n (by omega) (by omega), p_armW w2 (by omega), zkI_s, zif_n (by omega) (by omega), nI_1, zsI_zrI, zrI_row, u_at, Int32.zero_mul, zrI_ne (b := 40) _ _ (by decide)]
      exact this
    by_cases qk : k < nk
    · obtain ⟨k0, -, k2, k3, k4, -⟩ := hK k qk
      have ch : qw_hasBook 2 (nI k) σ (zrI I 39 (upd (I 39) k 0)) J = some (some (.int 1), (zSC σ, zrI I 39 (upd (I 39) k 0), J)) := r1Book w2 (by rw [zrI_ne _ _ (by decide)]; exact c1) n1 qk
      rw [k4, ch, zkI_s, if_neg z10, zkI_s, if_neg z10]
      by_cases q3 : S (20 + 7 * k + 4) = 300
      · rw [if_pos q3]
        refine no (fun _ => ?_)
        unfold zcd
        rw [decide_eq_true q3]
        rfl
      · rw [if_neg q3, p_bargeOfW w2 (nk := nk) (by rw [zrI_ne _ _ (by decide)]; exact c1) n1 qk, zkI_s, zrI_ne (b := 3) _ _ (by decide), k4, z_1m (by omega)]
        by_cases q4 : zbw (S (20 + 7 * k + 4)) = nI (1 - b)
        · rw [if_pos q4]
          refine no (fun _ => ?_)
          unfold zcd
          rw [z_101 (by omega), decide_eq_true ((zbw_eq (by omega)).mp q4), Bool.not_true, Bool.and_false]
        · have hc : zcd S b k = true := by
            unfold zcd
            rw [decide_eq_false q3, z_101 (by omega), decide_eq_false (fun h => q4 ((zbw_eq (by omega)).mpr h))]
            rfl
          have ez : zset (fun k => decide (k < nk) && zcd S b k) (k + 1) = zset (fun k => decide (k < nk) && zcd S b k) k ||| ((1 : Int32) <<< (nI k &&& 31)) := by
            show (if (decide (k < nk) && zcd S b k) = true then _ else zset (fun k => decide (k < nk) && zcd S b k) k) = _
            rw [if_pos (by rw [decide_eq_true qk, hc]; rfl)]
          rw [if_neg q4, p_heavyW w2 (by omega), zkI_s, zif_n (by omega) (by omega), pc23 w2 (by omega), zkI_s, p_shelfOfW w2 (by omega), zkI_s, zif_n (by omega) (by omega), p_armW w2 (by omega), zkI_s, zif_n (by omega) (by omega), nI_1, ← ez]
          simp only [zsI_zrI, zrI_zrI, zrI_row]
          rw [u_uu, u_at, zrI_ne (b := 40) _ _ (by decide), zrI_ne (b := 3) _ _ (by decide), zrI_ne (b := 3) _ _ (by decide)]
          refine nx _ _ (fun _ => ?_)
          rw [if_pos hc, if_pos hc, z_sh G hb qk, k0, k2, (hB b hb).1]
          exact ⟨rfl, rfl⟩
    · have ch : qw_hasBook 2 (nI k) σ (zrI I 39 (upd (I 39) k 0)) J = some (some (.int 0), (zSC σ, zrI I 39 (upd (I 39) k 0), J)) := r0Book w2 (nk := nk) (by rw [zrI_ne _ _ (by decide)]; exact c1) (Or.inr ⟨znn (by omega), fun h => qk ((nI_ltI (by omega) (by omega)).mp h)⟩)
      rw [ch, zkI_s, if_pos rfl, zkI_s, if_pos rfl]
      split
      · exact no (fun h => absurd h qk)
      · exact no (fun h => absurd h qk)
theorem p_can41 {I : zTI} {J : zTJ} {nk b : Nat} {x2 x3 x4 : Int32} (hn : nk ≤ 12) (s1 : I 10 1 = nI nk) : ∀ d k, k + d = nk → qm_aboard_41 (nI b) x2 x3 x4 (zset (zcd (I 10) b) k) (nI k) I J = qm_aboard_112 (nI b) x2 x3 x4 (zset (zcd (I 10) b) nk) 0 (zset (zcd (I 10) b) nk) (zset (zcd (I 10) b) nk) 0 I J := by
  intro d
  induction d with
  | zero =>
    intro k hk
    rw [t_qm_aboard_41, s1, if_neg (fun q => by have := (nI_ltI (by omega) (by omega)).mp q; omega), show k = nk by omega]
  | succ d ih =>
    intro k hk
    rw [t_qm_aboard_41, s1, if_pos (nI_lt (by omega) (by omega)), pb4 (by omega), zkI_s, pb4 (by omega), zkI_s, ← ih (k + 1) (by omega), nI_1]
    by_cases h : I 10 (20 + 7 * k + 4) = 300
    · rw [if_pos h, z_or0, show zset (zcd (I 10) b) (k + 1) = zset (zcd (I 10) b) k from if_neg (by unfold zcd; rw [decide_eq_true h, Bool.not_true, Bool.false_and]; decide)]
    · rw [if_neg h]
      by_cases h2 : I 10 (20 + 7 * k + 4) = 101 - nI b
      · rw [if_pos h2, z_or0, show zset (zcd (I 10) b) (k + 1) = zset (zcd (I 10) b) k from if_neg (by unfold zcd; rw [decide_eq_true h2, Bool.not_true, Bool.and_false]; decide)]
      · rw [if_neg h2, show zset (zcd (I 10) b) (k + 1) = zset (zcd (I 10) b) k ||| ((1 : Int32) <<< (nI k &&& 31)) from if_pos (by unfold zcd; rw [decide_eq_false h, decide_eq_false h2]; rfl)]
/-- what aboard answers -/
def zCa (x can : Int32) (s : zC3) : Int32 := if x = 0 then s.1 else if s.1 = 0 then 0 else if x = 1 then s.2.1 else can &&& (s.2.2 ^^^ (-1))
theorem z_none (can a m : Int32) : (can &&& (a ^^^ (-1))) &&& (m ^^^ (-1)) = can &&& ((a ||| m) ^^^ (-1)) := by
  apply b_ext
  intro i hi
  rw [b_and, b_and, b_and, b_not hi, b_not hi, b_not hi, b_or]
  cases bt can i <;> cases bt a i <;> cases bt m i <;> rfl
set_option maxHeartbeats 2000000 in
theorem p_abM {I : zTI} {J : zTJ} {nb nk ns nr nh b : Nat} {x D w : Int32} (N : zNs nb nk ns nr nh) (O : zOK nb nk ns nr nh (I 10)) (s1 : I 10 1 = nI nk) (hb : b < nb) : ∀ d m (s : zC3), m + d = 2 ^ nk → qm_aboard_112 (nI b) D w x (zset (zcd (I 10) b) nk) s.1 s.2.1 (zset (zcd (I 10) b) nk &&& (s.2.2 ^^^ (-1))) (nI m) I J = some (some (.int (zCa x (zset (zcd (I 10) b) nk) (zfo (zcst nk (zcd (I 10) b) (zokC (I 10) nk b D w (if w = -1000000 then 1 else 0))) m d s))), (zSM, I, J)) := by
  have hn := N.2.1
  have hp := z_pow12 hn
  obtain ⟨g2, g2a, g2b, e2⟩ := zk_g2 N O hb
  obtain ⟨g3, g3a, g3b, e3⟩ := zk_g3 N O hb
  have nb2 := N.1
  have z2 : ¬ I 10 (6 + 7 * b + 2) = 0 := fun q => by rw [e2] at q; have := znI (b := 0) (by omega) (by decide) q; omega
  have z3 : ¬ I 10 (6 + 7 * b + 3) = 0 := fun q => by rw [e3] at q; have := znI (b := 0) (by omega) (by decide) q; omega
  intro d
  induction d with
  | zero =>
    intro m s e
    have em : m = 2 ^ nk := by omega
    subst em
    rw [t_qm_aboard_112, s1, z_2nk hn, if_neg (fun q => by have := (nI_ltI (by omega) (by omega)).mp q; omega)]
    show _ = some (some (Value.int (zCa x (zset (zcd (I 10) b) nk) s)), (zSM, I, J))
    unfold zCa
    by_cases h0 : x = 0
    · rw [if_pos h0, if_pos h0]
    · rw [if_neg h0, if_neg h0]
      by_cases h1 : s.1 = 0
      · rw [if_pos h1, if_pos h1]
      · rw [if_neg h1, if_neg h1]
        by_cases h2 : x = 1
        · rw [if_pos h2, if_pos h2]
        · rw [if_neg h2, if_neg h2]
  | succ d ih =>
    intro m s e
    have hm : m < 2 ^ nk := by omega
    have es : ∀ f : zC3 → Nat → zC3, zfo f m (d + 1) s = zfo f (m + 1) d (f s m) := fun f => by
      rw [show d + 1 = 1 + d by omega, zfo_add]
      rfl
    rw [es]
    have tl : ztilt (I 10) nk b (nI m) = zsum (ztl (I 10) b) m.testBit 0 nk := zsum_congr nk (fun i hi => ⟨bt_nI (by omega), fun _ => rfl⟩)
    have ld : zload (I 10) nk b (nI m) = zsum (zhv (I 10)) m.testBit (I 10 (6 + 7 * b + 1) + I 10 (6 + 7 * b + 4)) nk := zsum_congr nk (fun i hi => ⟨bt_nI (by omega), fun _ => rfl⟩)
    rw [t_qm_aboard_112, s1, z_2nk hn, if_pos (nI_lt hm (by omega)), nI_1]
    by_cases hsb : zsb nk (zcd (I 10) b) m = true
    · rw [if_pos ((z_sub hn hm _).mpr hsb), p_draughtBy (by omega) hn s1 z2 z3, zkI_s, show qm_tiltBy (nI b) (nI m) I J = some (some (.int (ztilt (I 10) nk b (nI m))), (zSM, I, J)) from p_tiltBy (by omega) hn s1, zkI_s, tl, z_none]
      have ed : zdrB (I 10) nk b (nI m) = zdr (zsum (zhv (I 10)) m.testBit (I 10 (6 + 7 * b + 1) + I 10 (6 + 7 * b + 4)) nk) (zsum (ztl (I 10) b) m.testBit 0 nk) (I 10 (6 + 7 * b + 2)) (I 10 (6 + 7 * b + 3)) := by
        unfold zdrB
        rw [ld, tl]
      rw [ed]
      have yes := ih (m + 1) (s.1 + 1, s.2.1 &&& nI m, s.2.2 ||| nI m) (by omega)
      have nay := ih (m + 1) s (by omega)
      have hst : zcst nk (zcd (I 10) b) (zokC (I 10) nk b D w (if w = -1000000 then 1 else 0)) s m = if zokC (I 10) nk b D w (if w = -1000000 then 1 else 0) m = true then (s.1 + 1, s.2.1 &&& nI m, s.2.2 ||| nI m) else s := by
        unfold zcst
        rw [hsb, Bool.true_and]
      rw [hst]
      by_cases q : zdr (zsum (zhv (I 10)) m.testBit (I 10 (6 + 7 * b + 1) + I 10 (6 + 7 * b + 4)) nk) (zsum (ztl (I 10) b) m.testBit 0 nk) (I 10 (6 + 7 * b + 2)) (I 10 (6 + 7 * b + 3)) = D
      · rw [if_pos q]
        by_cases qw : w = -1000000
        · rw [if_pos qw, if_pos (show zokC (I 10) nk b D w (if w = -1000000 then 1 else 0) m = true by
            unfold zokC
            rw [decide_eq_true q, if_pos qw, decide_eq_false z10]
            rfl)]
          exact yes
        · rw [if_neg qw]
          by_cases qt : zsum (ztl (I 10) b) m.testBit 0 nk = w
          · rw [if_pos qt, if_pos (show zokC (I 10) nk b D w (if w = -1000000 then 1 else 0) m = true by
              unfold zokC
              rw [decide_eq_true q, decide_eq_true qt, Bool.or_true]
              rfl)]
            exact yes
          · rw [if_neg qt, if_neg (show ¬ zokC (I 10) nk b D w (if w = -1000000 then 1 else 0) m = true by
              unfold zokC
              rw [if_neg qw, decide_eq_false qt, decide_eq_true (show (0 : Int32) = 0 from rfl)]
              simp)]
            exact nay
      · rw [if_neg q, if_neg (show ¬ zokC (I 10) nk b D w (if w = -1000000 then 1 else 0) m = true by
          unfold zokC
          rw [decide_eq_false q, Bool.and_false]
          decide)]
        exact nay
    · rw [if_neg (fun h => hsb ((z_sub hn hm _).mp h))]
      have hst : zcst nk (zcd (I 10) b) (zokC (I 10) nk b D w (if w = -1000000 then 1 else 0)) s m = s := by
        unfold zcst
        rw [Bool.eq_false_iff.mpr hsb, Bool.false_and, if_neg (by decide)]
      rw [hst]
      exact ih (m + 1) s (by omega)
set_option maxHeartbeats 4000000 in
theorem p_cfind {nb nk ns nr nh b dr : Nat} {σ : zSg} {I : zTI} {J : zTJ} {S : Nat → Int32} {w fl : Int32} (G : zGood nb nk ns nr nh (I 3) S) (hb : b < nb) (hdr : dr ≤ 9999) (hfl : zbo fl = true) : ∃ I2, qc_find (nI b) (nI dr) w fl σ I J = some (none, (zSC σ, I2, J)) ∧ (∀ i, i < 7 ∨ i = 25 ∨ 47 ≤ i → I2 i = I i) ∧ I2 38 8 = (zfo (zcst nk (zcd S b) (zokC S nk b (nI dr) w fl)) 0 (2 ^ nk) (0, zset (zcd S b) nk, 0)).1 ∧ I2 38 9 = (zfo (zcst nk (zcd S b) (zokC S nk b (nI dr) w fl)) 0 (2 ^ nk) (0, zset (zcd S b) nk, 0)).2.1 ∧ I2 38 10 = zset (zcd S b) nk &&& ((zfo (zcst nk (zcd S b) (zokC S nk b (nI dr) w fl)) 0 (2 ^ nk) (0, zset (zcd S b) nk, 0)).2.2 ^^^ (-1)) := by
  obtain ⟨⟨n0, n1, n2, n3, n4⟩, ⟨s0, s1, s2, s3, s4⟩, ⟨c0, c1, c2, c3, c4⟩, cD, hB, hK, -, hR, -⟩ := id G.1
  obtain ⟨-, b1, b2, b3, b4, -⟩ := hB b hb
  rw [t_qc_find, zif_t hfl, pc93 w2 (by omega), zkI_s, pc95 w2 (by omega), zkI_s, t_qc_noteCandidates]
  simp only [zsI_zrI, zrI_zrI, zrI_row]
  rw [zrI_ne (b := 3) _ _ (by decide), zrI_ne (b := 3) _ _ (by decide), b2, b3]
  obtain ⟨I2, f1, f2, f3⟩ := p_note (σ := σ) (J := J) G hb 12 0 (zrI I 38 (upd (upd (upd (upd (upd (I 38) 4 (nI dr)) 5 w) 6 fl) 2 (S (6 + 7 * b + 2))) 3 (S (6 + 7 * b + 3)))) (by omega) (by rw [zrI_ne _ _ (by decide)]) (fun i hi => absurd hi (by omega))
  have ez : zset (fun k => decide (k < nk) && zcd S b k) 12 = zset (zcd S b) nk := by
    have h1 := zset_ext (p := fun k => decide (k < nk) && zcd S b k) (n := nk) (fun k hk => by
      show (decide (k < nk) && zcd S b k) = false
      rw [decide_eq_false (by omega), Bool.false_and]) (12 - nk)
    rw [show nk + (12 - nk) = 12 by omega] at h1
    rw [h1]
    exact zset_congr nk (fun k hk => by rw [decide_eq_true hk, Bool.true_and])
  rw [ez] at f1
  have i3 : I2 3 = I 3 := by rw [f2 3 (by decide) (by decide), zrI_ne _ _ (by decide)]
  have i38 : I2 38 = upd (upd (upd (upd (upd (I 38) 4 (nI dr)) 5 w) 6 fl) 2 (S (6 + 7 * b + 2))) 3 (S (6 + 7 * b + 3)) := by rw [f2 38 (by decide) (by decide), zrI_row]
  rw [show qc_noteCandidates_5 (nI b) 0 0 σ _ J = _ from f1, zkI_s]
  have eCh : zrI I2 38 (upd (upd (upd (I2 38) 8 0) 7 0) 9 (zset (zcd S b) nk)) = zCh I2 (0, zset (zcd S b) nk, 0) := by
    unfold zCh
    rw [u_cm _ _ _ (show 7 ≠ 9 by decide)]
  rw [eCh, pc91 w2 (by omega), zkI_s, pc3 w2 (by omega), zkI_s, pc85 w2, zkI_s, zCh_r (by decide), i3, c1, b1, b4, a_cs n1 (by omega)]
  have ps := p_csearch (σ := σ) (J := J) (I0 := I2) (b := b) (dr := dr) (w := w) (fl := fl) (cd := zcd S b) G.1.ns G.2.1 hb hdr f3 (by rw [i38, u_no (by decide), u_at]) (by rw [i38, u_at]) (by rw [i38, u_no (by decide), u_no (by decide), u_no (by decide), u_no (by decide), u_at]) (by rw [i38, u_no (by decide), u_no (by decide), u_no (by decide), u_at]) (by rw [i38, u_no (by decide), u_no (by decide), u_at]) nk 0 (0, zset (zcd S b) nk, 0) (Nat.le_refl nk) (fun i _ h => by rw [zms_zero] at h; cases h)
  rw [zsum_none nk (fun i _ => zms_zero nk i), zsum_none nk (fun i _ => zms_zero nk i), Nat.zero_mul, zdfs_fo, Nat.zero_mul] at ps
  rw [show qc_search (2 + nk) (nI nk - 1) (S (6 + 7 * b + 1) + S (6 + 7 * b + 4)) 0 0 σ (zCh I2 (0, zset (zcd S b) nk, 0)) J = _ from ps, zkV_s, zCh_7]
  refine ⟨_, rfl, fun i hi => ?_, ?_, ?_, ?_⟩
  · rw [zrI_ne _ _ (by omega), zCh_r (by omega), f2 i (by omega) (by omega), zrI_ne _ _ (by omega)]
  · rw [zrI_row, u_no (by decide), zCh_8]
  · rw [zrI_row, u_no (by decide), zCh_9]
  · rw [zrI_row, u_at]
set_option maxHeartbeats 2000000 in
theorem o_aboard {nb nk ns nr nh t j u : Nat} {σ : zSg} {I I' : zTI} {J J' : zTJ} (H : zSta nb nk ns nr nh t j u I I') (x1 x2 x3 x4 : Int32) : zDo nb nk ns nr nh t σ I I' (qb_aboard x1 x2 x3 x4 σ I J) (qm_aboard x1 x2 x3 x4 I' J') := by
  obtain ⟨T, G, -, -, -, hin, -⟩ := id H
  obtain ⟨⟨n0, n1, n2, n3, n4⟩, ⟨s0, s1, s2, s3, s4⟩, ⟨c0, c1, c2, c3, c4⟩, cD, hB, hK, -, hR, -⟩ := id G.1
  rw [t_qb_aboard, t_qm_aboard]
  rcases zcase x1 nb (by omega) with ⟨b, hb, rfl⟩ | h
  · rw [r1Barge w2 c0 n0 hb, zkI_s, if_neg z10, q1Barge s0 n0 hb, zkI_s, if_neg z10, p_in (x := x2) (hi := 9999) 9999 rfl, zkI_s]
    rcases zwhat x2 9999 (by omega) with ⟨dr, hdr, rfl⟩ | q
    · rw [if_pos (zrange hdr (by omega)), if_neg z10, if_neg (znn (by omega)), if_neg (show ¬ (9999 : Int32) < nI dr from fun h => by have := (nI_ltI (a := 9999) (by decide) (by omega)).mp h; omega), p_in (x := x4) (hi := 2) 2 rfl, zkI_s]
      rcases zwhat x4 2 (by omega) with ⟨w, hw, rfl⟩ | q
      · rw [if_pos (zrange hw (by omega)), if_neg z10, if_neg (znn (by omega)), if_neg (show ¬ (2 : Int32) < nI w from fun h => by have := (nI_ltI (a := 2) (by decide) (by omega)).mp h; omega)]
        have pm := p_abM (J := J') (x := nI w) (D := nI dr) (w := x3) G.1.ns G.2.1 s1 hb (2 ^ nk) 0 (0, zset (zcd (I' 10) b) nk, 0) (by omega)
        have e0 : zset (zcd (I' 10) b) nk &&& ((0 : Int32) ^^^ (-1)) = zset (zcd (I' 10) b) nk := by
          apply b_ext
          intro i hi
          rw [b_and, b_not hi, b_0, Bool.not_false, Bool.and_true]
        simp only [e0] at pm
        rw [show qm_aboard_41 (nI b) (nI dr) x3 (nI w) 0 0 I' J' = _ from p_can41 n1 s1 nk 0 (by omega), show qm_aboard_112 (nI b) (nI dr) x3 (nI w) (zset (zcd (I' 10) b) nk) 0 (zset (zcd (I' 10) b) nk) (zset (zcd (I' 10) b) nk) 0 I' J' = _ from pm]
        have go : ∀ fl : Int32, zbo fl = true → (if x3 = -1000000 then (1 : Int32) else 0) = fl → zDo nb nk ns nr nh t σ I I' (zkV (qc_find (nI b) (nI dr) x3 fl σ I J) (zSC σ) (fun I4 J5 => (if nI w = 0 then (some (some (.int (I4 38 8)), ((zSC σ), I4, J5))) else (if (I4 38 8) = 0 then (some (some (.int 0), ((zSC σ), I4, J5))) else (if nI w = 1 then (some (some (.int (I4 38 9)), ((zSC σ), I4, J5))) else (some (some (.int (I4 38 10)), ((zSC σ), I4, J5)))))))) (some (some (.int (zCa (nI w) (zset (zcd (I' 10) b) nk) (zfo (zcst nk (zcd (I' 10) b) (zokC (I' 10) nk b (nI dr) x3 (if x3 = -1000000 then 1 else 0))) 0 (2 ^ nk) (0, zset (zcd (I' 10) b) nk, 0)))), (zSM, I', J'))) := by
          intro fl hfl efl
          obtain ⟨I2, f1, f2, f3, f4, f5⟩ := p_cfind (σ := σ) (J := J) (w := x3) (fl := fl) G hb hdr hfl
          rw [f1, zkV_s, efl, f3, f4, f5]
          generalize zfo _ 0 (2 ^ nk) _ = s
          unfold zCa
          by_cases h0 : nI w = 0
          · rw [if_pos h0, if_pos h0]
            exact zDo_scr H rfl rfl f2 (fun _ _ => rfl) (fun _ _ => rfl)
          · rw [if_neg h0, if_neg h0]
            by_cases h1 : s.1 = 0
            · rw [if_pos h1, if_pos h1]
              exact zDo_scr H rfl rfl f2 (fun _ _ => rfl) (fun _ _ => rfl)
            · rw [if_neg h1, if_neg h1]
              by_cases h2 : nI w = 1
              · rw [if_pos h2, if_pos h2]
                exact zDo_scr H rfl rfl f2 (fun _ _ => rfl) (fun _ _ => rfl)
              · rw [if_neg h2, if_neg h2]
                exact zDo_scr H rfl rfl f2 (fun _ _ => rfl) (fun _ _ => rfl)
        by_cases qf : x3 = -1000000
        · have := go 1 zbo_1 (if_pos qf)
          rw [if_pos qf]
          exact this
        · have := go 0 zbo_0 (if_neg qf)
          rw [if_neg qf]
          exact this
      · rw [if_neg q, if_pos rfl]
        by_cases q3 : x4 < 0
        · rw [if_pos q3]
          exact zDo_same H ⟨_, rfl, rfl⟩
        · rw [if_neg q3, if_pos]
          · exact zDo_same H ⟨_, rfl, rfl⟩
          · obtain ⟨v, rfl, hv⟩ := zof q3
            rw [nI_toInt hv] at q
            exact nI_lt (a := 2) (by omega) hv
    · rw [if_neg q, if_pos rfl]
      by_cases q3 : x2 < 0
      · rw [if_pos q3]
        exact zDo_same H ⟨_, rfl, rfl⟩
      · rw [if_neg q3, if_pos]
        · exact zDo_same H ⟨_, rfl, rfl⟩
        · obtain ⟨v, rfl, hv⟩ := zof q3
          rw [nI_toInt hv] at q
          exact nI_lt (a := 9999) (by omega) hv
  · rw [r0Barge w2 c0 h, zkI_s, if_pos rfl, q0Barge s0 h, zkI_s, if_pos rfl]
    exact zDo_same H ⟨_, rfl, rfl⟩
