/-! ===== left: the reference, and both ===== -/
theorem zsum_sh {g : Nat → Int32} {q : Nat → Bool} {x y : Int32} : ∀ n, zsum g q (x + y) n = zsum g q x n + y
  | 0 => rfl
  | n + 1 => by
    unfold zsum
    rw [zsum_sh n]
    split
    · grind
    · rfl
theorem zsum_t {f : Nat → Int32} {p : Nat → Bool} {a : Int32} {n : Nat} (h : p n = true) : zsum f p a (n + 1) = zsum f p a n + f n := if_pos h
theorem zsum_z {f : Nat → Int32} {p : Nat → Bool} {a : Int32} {n : Nat} (h : ¬ p n = true) : zsum f p a (n + 1) = zsum f p a n := if_neg h
theorem zsum_minus {f : Nat → Int32} {p q : Nat → Bool} {a : Int32} : ∀ n, (∀ i, i < n → q i = true → p i = true) → zsum f (fun i => p i && !q i) a n = zsum (fun i => -(f i)) q (zsum f p a n) n
  | 0, _ => rfl
  | n + 1, h => by
    have ih := zsum_minus (f := f) (a := a) n (fun i hi => h i (by omega))
    have h' := h n (by omega)
    by_cases hp : p n = true
    · by_cases hq : q n = true
      · rw [zsum_z (by simp [hq]), zsum_t hq, zsum_t hp, zsum_sh, ih]
        grind
      · rw [zsum_t (by simp [hp, hq]), zsum_z hq, zsum_t hp, zsum_sh, ih]
    · have hq : ¬ q n = true := fun e => hp (h' e)
      rw [zsum_z (by simp [hp]), zsum_z hq, zsum_z hp, ih]
/-- the set of what is aboard -/
theorem bt_all {nk : Nat} (hn : nk ≤ 12) (p : Nat → Bool) {i : Nat} (hi : i < nk) : bt (zset p nk) i = p i := by
  rw [b_zset p nk (by omega) i (by omega), decide_eq_true hi, Bool.true_and]
theorem z_sub {nk m : Nat} (hn : nk ≤ 12) (hm : m < 2 ^ nk) (p : Nat → Bool) : (nI m &&& (zset p nk ^^^ (-1)) = 0) ↔ zsb nk p m = true := by
  unfold zsb
  rw [decide_eq_true_eq]
  constructor
  · intro h i hi hb
    have h1 := congrArg (fun x => bt x i) h
    simp only [b_and, b_0] at h1
    rw [bt_nI (by omega), b_not (by omega), bt_all hn p hi, hb, Bool.true_and] at h1
    simpa using h1
  · intro h
    apply b_ext
    intro i hi
    rw [b_and, b_0, bt_nI hi, b_not hi, b_zset p nk (by omega) i hi]
    by_cases q : i < nk
    · by_cases hb : m.testBit i = true
      · rw [h i q hb, decide_eq_true q, hb]; rfl
      · rw [Bool.eq_false_iff.mpr hb, Bool.false_and]
    · rw [Nat.testBit_lt_two_pow (Nat.lt_of_lt_of_le hm (Nat.pow_le_pow_right (by omega) (by omega))), Bool.false_and]
theorem z_less {nk m : Nat} (hn : nk ≤ 12) (p : Nat → Bool) (f : Nat → Int32) (a : Int32) (hs : zsb nk p m = true) : zsum f (bt (zset p nk &&& (nI m ^^^ (-1)))) a nk = zsum (fun i => -(f i)) m.testBit (zsum f (bt (zset p nk)) a nk) nk := by
  have hs' := of_decide_eq_true hs
  have e1 : zsum f (bt (zset p nk &&& (nI m ^^^ (-1)))) a nk = zsum f (fun i => p i && !m.testBit i) a nk := zsum_congr nk (fun i hi => ⟨by rw [b_and, b_not (by omega), bt_all hn p hi, bt_nI (by omega)], fun _ => rfl⟩)
  have e2 : zsum f (bt (zset p nk)) a nk = zsum f p a nk := zsum_congr nk (fun i hi => ⟨bt_all hn p hi, fun _ => rfl⟩)
  rw [e1, e2, zsum_minus nk (fun i hi h => hs' i hi h)]
theorem p_worthL {I : zTI} {J : zTJ} {nk : Nat} {set : Int32} (hn : nk ≤ 12) (s1 : I 10 1 = nI nk) : ∀ d k, k + d = nk → qm_worthOf_4 set (zsum (fun k => I 10 (20 + 7 * k + 1)) (bt set) 0 k) (nI k) I J = some (some (.int (zsum (fun k => I 10 (20 + 7 * k + 1)) (bt set) 0 nk)), (zSM, I, J)) := by
  intro d
  induction d with
  | zero =>
    intro k hk
    rw [t_qm_worthOf_4, s1, if_neg (fun q => by have := (nI_ltI (by omega) (by omega)).mp q; omega), show k = nk by omega]
  | succ d ih =>
    intro k hk
    rw [t_qm_worthOf_4, s1, if_pos (nI_lt (by omega) (by omega)), p_isOf (by omega), zkI_s, ← ih (k + 1) (by omega), nI_1]
    by_cases h : bt set k = true
    · rw [if_pos h, if_neg (by decide), pb1 (by omega), zkI_s, show zsum (fun k => I 10 (20 + 7 * k + 1)) (bt set) 0 (k + 1) = zsum (fun k => I 10 (20 + 7 * k + 1)) (bt set) 0 k + I 10 (20 + 7 * k + 1) from if_pos h]
    · rw [if_neg h, if_pos rfl, z_add0, show zsum (fun k => I 10 (20 + 7 * k + 1)) (bt set) 0 (k + 1) = zsum (fun k => I 10 (20 + 7 * k + 1)) (bt set) 0 k from if_neg h]
theorem p_worthOf {I : zTI} {J : zTJ} {nb nk ns nr nh m : Nat} (N : zNs nb nk ns nr nh) (O : zOK nb nk ns nr nh (I 10)) (s1 : I 10 1 = nI nk) : qm_worthOf (nI m) I J = some (some (.int (nI (zwt nk (zwN (I 10)) m))), (zSM, I, J)) := by
  have hn := N.2.1
  rw [t_qm_worthOf, show qm_worthOf_4 (nI m) 0 0 I J = _ from p_worthL hn s1 nk 0 (by omega)]
  have e : zsum (fun k => I 10 (20 + 7 * k + 1)) (bt (nI m)) 0 nk = zsum (fun k => I 10 (20 + 7 * k + 1)) m.testBit (nI 0) nk := zsum_congr nk (fun i hi => ⟨bt_nI (by omega), fun _ => rfl⟩)
  rw [e, zsum_nI nk (fun i hi => (zwN_e N O hi).1), Nat.zero_add]
  rfl
def zM6 : Option Nat → Int32
  | none => -2
  | some q => nI q
def zM7 (nk : Nat) (w : Nat → Nat) : Option Nat → Int32
  | none => 0
  | some q => nI (zwt nk w q)
/-- what left answers -/
def zLa (nk : Nat) (w : Nat → Nat) (x : Int32) : Option Nat → Int32
  | none => -2
  | some q => if x = 1 then nI q else nI (zwt nk w q)
theorem zlst_lt {nk : Nat} {ab : Nat → Bool} {w : Nat → Nat} {ok : Nat → Bool} : ∀ (m q : Nat), zfo (zlst nk ab w ok) 0 m none = some q → q < m
  | 0, q, h => by simp [zfo] at h
  | m + 1, q, h => by
    have ih := zlst_lt (nk := nk) (ab := ab) (w := w) (ok := ok) m
    have h' : zlst nk ab w ok (zfo (zlst nk ab w ok) 0 m none) (0 + m) = some q := h
    rw [Nat.zero_add] at h'
    generalize zfo (zlst nk ab w ok) 0 m none = s at h' ih
    unfold zlst at h'
    by_cases h1 : zsb nk ab m = true
    · rw [if_pos h1] at h'
      cases s with
      | none =>
        simp only at h'
        split at h'
        · cases h'; omega
        · cases h'
      | some q' =>
        have := ih q' rfl
        simp only at h'
        split at h'
        · cases h'; omega
        · split at h'
          · cases h'; omega
          · cases h'; omega
    · rw [if_neg h1] at h'
      have := ih q h'
      omega
set_option maxHeartbeats 2000000 in
theorem p_leftM {I : zTI} {J : zTJ} {nb nk ns nr nh b : Nat} {x dep : Int32} (N : zNs nb nk ns nr nh) (O : zOK nb nk ns nr nh (I 10)) (s1 : I 10 1 = nI nk) (hb : b < nb) : ∀ d m, m + d = 2 ^ nk → qm_left_62 (nI b) x (zset (zab (I 10) b) nk) dep (zM6 (zfo (zlst nk (zab (I 10) b) (zwN (I 10)) (fun m => !decide (dep < zdr (zsum (fun i => -(zhv (I 10) i)) m.testBit (zload (I 10) nk b (zset (zab (I 10) b) nk)) nk) (zsum (fun i => -(ztl (I 10) b i)) m.testBit (ztilt (I 10) nk b (zset (zab (I 10) b) nk)) nk) (I 10 (6 + 7 * b + 2)) (I 10 (6 + 7 * b + 3))))) 0 m none)) (zM7 nk (zwN (I 10)) (zfo (zlst nk (zab (I 10) b) (zwN (I 10)) (fun m => !decide (dep < zdr (zsum (fun i => -(zhv (I 10) i)) m.testBit (zload (I 10) nk b (zset (zab (I 10) b) nk)) nk) (zsum (fun i => -(ztl (I 10) b i)) m.testBit (ztilt (I 10) nk b (zset (zab (I 10) b) nk)) nk) (I 10 (6 + 7 * b + 2)) (I 10 (6 + 7 * b + 3))))) 0 m none)) (nI m) I J = some (some (.int (zLa nk (zwN (I 10)) x (zfo (zlst nk (zab (I 10) b) (zwN (I 10)) (fun m => !decide (dep < zdr (zsum (fun i => -(zhv (I 10) i)) m.testBit (zload (I 10) nk b (zset (zab (I 10) b) nk)) nk) (zsum (fun i => -(ztl (I 10) b i)) m.testBit (ztilt (I 10) nk b (zset (zab (I 10) b) nk)) nk) (I 10 (6 + 7 * b + 2)) (I 10 (6 + 7 * b + 3))))) 0 (2 ^ nk) none))), (zSM, I, J)) := by
  have hn := N.2.1
  have hp := z_pow12 hn
  obtain ⟨g2, g2a, g2b, e2⟩ := zk_g2 N O hb
  obtain ⟨g3, g3a, g3b, e3⟩ := zk_g3 N O hb
  have nb2 := N.1
  have z2 : ¬ I 10 (6 + 7 * b + 2) = 0 := fun q => by rw [e2] at q; have := znI (b := 0) (by omega) (by decide) q; omega
  have z3 : ¬ I 10 (6 + 7 * b + 3) = 0 := fun q => by rw [e3] at q; have := znI (b := 0) (by omega) (by decide) q; omega
  generalize hok : (fun m : Nat => !decide (dep < zdr (zsum (fun i => -(zhv (I 10) i)) m.testBit (zload (I 10) nk b (zset (zab (I 10) b) nk)) nk) (zsum (fun i => -(ztl (I 10) b i)) m.testBit (ztilt (I 10) nk b (zset (zab (I 10) b) nk)) nk) (I 10 (6 + 7 * b + 2)) (I 10 (6 + 7 * b + 3)))) = ok
  generalize hst : zlst nk (zab (I 10) b) (zwN (I 10)) ok = stp
  intro d
  induction d with
  | zero =>
    intro m e
    have em : m = 2 ^ nk := by omega
    subst em
    rw [t_qm_left_62, s1, z_2nk hn, if_neg (fun q => by have := (nI_ltI (by omega) (by omega)).mp q; omega)]
    have hl := zlst_lt (nk := nk) (ab := zab (I 10) b) (w := zwN (I 10)) (ok := ok) (2 ^ nk)
    rw [hst] at hl
    cases hs : zfo stp 0 (2 ^ nk) none with
    | none =>
      rw [show zM6 none = -2 from rfl, if_pos (by decide)]
      rfl
    | some q =>
      have := hl q hs
      rw [show zM6 (some q) = nI q from rfl, if_neg (znn (by omega))]
      show _ = some (some (Value.int (if x = 1 then nI q else nI (zwt nk (zwN (I 10)) q))), (zSM, I, J))
      split <;> rfl
  | succ d ih =>
    intro m e
    have hm : m < 2 ^ nk := by omega
    have hl := zlst_lt (nk := nk) (ab := zab (I 10) b) (w := zwN (I 10)) (ok := ok) m
    rw [hst] at hl
    have i1 := ih (m + 1) (by omega)
    have es : zfo stp 0 (m + 1) none = stp (zfo stp 0 m none) m := by
      show stp (zfo stp 0 m none) (0 + m) = _
      rw [Nat.zero_add]
    rw [es] at i1
    rw [t_qm_left_62, s1, z_2nk hn, if_pos (nI_lt hm (by omega)), nI_1]
    generalize zfo stp 0 m none = s at *
    rw [← hst] at i1
    rw [← hst]
    unfold zlst at i1
    by_cases hsb : zsb nk (zab (I 10) b) m = true
    · have hdr : zdrB (I 10) nk b (zset (zab (I 10) b) nk &&& (nI m ^^^ (-1))) = zdr (zsum (fun i => -(zhv (I 10) i)) m.testBit (zload (I 10) nk b (zset (zab (I 10) b) nk)) nk) (zsum (fun i => -(ztl (I 10) b i)) m.testBit (ztilt (I 10) nk b (zset (zab (I 10) b) nk)) nk) (I 10 (6 + 7 * b + 2)) (I 10 (6 + 7 * b + 3)) := by
        unfold zdrB
        rw [show zload (I 10) nk b (zset (zab (I 10) b) nk &&& (nI m ^^^ (-1))) = _ from z_less hn _ _ _ hsb, show ztilt (I 10) nk b (zset (zab (I 10) b) nk &&& (nI m ^^^ (-1))) = _ from z_less hn _ _ _ hsb]
        rfl
      have hokm : ok m = !decide (dep < zdrB (I 10) nk b (zset (zab (I 10) b) nk &&& (nI m ^^^ (-1)))) := by
        rw [hdr, ← hok]
      rw [if_pos hsb, hokm] at i1
      rw [if_pos ((z_sub hn hm _).mpr hsb), p_worthOf N O s1, zkI_s, p_draughtBy (by omega) hn s1 z2 z3, zkI_s]
      have mw := zwt_le N O m.testBit
      cases s with
      | none =>
        rw [show zM6 none = -2 from rfl, if_pos (show (-2 : Int32) < 0 by decide)]
        by_cases q : dep < zdrB (I 10) nk b (zset (zab (I 10) b) nk &&& (nI m ^^^ (-1)))
        · simp only [decide_eq_true q] at i1
          rw [if_pos q]
          exact i1
        · simp only [decide_eq_false q] at i1
          rw [if_neg q]
          exact i1
      | some q =>
        have hq := hl q rfl
        have qw := zwt_le N O q.testBit
        have c1 := zcnt_le m.testBit nk
        have c2 := zcnt_le q.testBit nk
        rw [show zM6 (some q) = nI q from rfl, if_neg (znn (by omega)), show zM7 nk (zwN (I 10)) (some q) = nI (zwt nk (zwN (I 10)) q) from rfl, p_bits (by omega), zkI_s, p_bits (by omega), zkI_s, zcnt_12 hn hm, zcnt_12 hn (by omega), p_draughtBy (by omega) hn s1 z2 z3, zkI_s]
        simp only at i1
        by_cases h1 : zwt nk (zwN (I 10)) q < zwt nk (zwN (I 10)) m
        · rw [if_pos (nI_lt h1 (by unfold zwt; omega))]
          rw [if_pos (Or.inl h1)] at i1
          exact i1
        · rw [if_neg (fun h => h1 ((nI_ltI (by unfold zwt; omega) (by unfold zwt; omega)).mp h))]
          by_cases h2 : zwt nk (zwN (I 10)) m = zwt nk (zwN (I 10)) q
          · rw [if_pos (by rw [h2])]
            by_cases h3 : zsz_ nk m < zsz_ nk q
            · rw [if_pos (show nI (zcnt m.testBit nk) < nI (zcnt q.testBit nk) from nI_lt h3 (by omega))]
              rw [if_neg (fun h => h.elim h1 (fun h => h.2 h3))] at i1
              by_cases q' : dep < zdrB (I 10) nk b (zset (zab (I 10) b) nk &&& (nI m ^^^ (-1)))
              · rw [decide_eq_true q', if_neg (by decide)] at i1
                rw [if_pos q']
                exact i1
              · rw [decide_eq_false q', if_pos (by decide)] at i1
                rw [if_neg q']
                exact i1
            · rw [if_neg (show ¬ nI (zcnt m.testBit nk) < nI (zcnt q.testBit nk) from fun h => h3 ((nI_ltI (a := zcnt m.testBit nk) (b := zcnt q.testBit nk) (by omega) (by omega)).mp h))]
              rw [if_pos (Or.inr ⟨h2, h3⟩)] at i1
              exact i1
          · rw [if_neg (fun h => h2 (znI (by unfold zwt; omega) (by unfold zwt; omega) h))]
            rw [if_neg (fun h => h.elim h1 (fun h => h2 h.1))] at i1
            by_cases q' : dep < zdrB (I 10) nk b (zset (zab (I 10) b) nk &&& (nI m ^^^ (-1)))
            · rw [decide_eq_true q', if_neg (by decide)] at i1
              rw [if_pos q']
              exact i1
            · rw [decide_eq_false q', if_pos (by decide)] at i1
              rw [if_neg q']
              exact i1
    · rw [if_neg hsb] at i1
      rw [if_neg (fun h => hsb ((z_sub hn hm _).mp h))]
      exact i1
