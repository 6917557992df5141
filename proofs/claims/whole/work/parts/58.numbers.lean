/-! ===== numbers: how large a load, a tilt, a draught may be ===== -/
theorem zti_add {x y : Int32} {a b : Int} (hx : x.toInt = a) (hy : y.toInt = b) (h1 : -2147483648 ≤ a + b) (h2 : a + b < 2147483648) : (x + y).toInt = a + b := by
  rw [Int32.toInt_add, hx, hy]
  exact Int.bmod_eq_of_le (by omega) (by omega)
theorem zti_neg {x : Int32} {a : Int} (hx : x.toInt = a) (h1 : -2147483648 < a) (h2 : a < 2147483648) : (-x).toInt = -a := by
  rw [Int32.toInt_neg, hx]
  exact Int.bmod_eq_of_le (by omega) (by omega)
theorem zti_sub {x y : Int32} {a b : Int} (hx : x.toInt = a) (hy : y.toInt = b) (h1 : -2147483648 ≤ a - b) (h2 : a - b < 2147483648) : (x - y).toInt = a - b := by
  rw [Int32.toInt_sub, hx, hy]
  exact Int.bmod_eq_of_le (by omega) (by omega)
theorem zti_mul {x y : Int32} {a b : Int} (hx : x.toInt = a) (hy : y.toInt = b) (h1 : -2147483648 ≤ a * b) (h2 : a * b < 2147483648) : (x * y).toInt = a * b := by
  rw [Int32.toInt_mul, hx, hy]
  exact Int.bmod_eq_of_le (by omega) (by omega)
/-- a sum stays small -/
theorem zsum_bd {f : Nat → Int32} {p : Nat → Bool} {a : Int32} {c A : Nat} (hc : c ≤ 1000000) (hA : A ≤ 1000000) (ha : -(A : Int) ≤ a.toInt ∧ a.toInt ≤ A) : ∀ n, n ≤ 12 → (∀ i, i < n → -(c : Int) ≤ (f i).toInt ∧ (f i).toInt ≤ c) → -((A + c * n : Nat) : Int) ≤ (zsum f p a n).toInt ∧ (zsum f p a n).toInt ≤ ((A + c * n : Nat) : Int)
  | 0, _, _ => by
    show -((A + c * 0 : Nat) : Int) ≤ a.toInt ∧ a.toInt ≤ ((A + c * 0 : Nat) : Int)
    rw [Nat.mul_zero, Nat.add_zero]
    exact ha
  | n + 1, hn, h => by
    have ih := zsum_bd (p := p) hc hA ha n (by omega) (fun i hi => h i (by omega))
    have hb := h n (by omega)
    have hcn : c * n ≤ 1000000 * 12 := Nat.mul_le_mul hc (by omega)
    rw [Nat.mul_add, Nat.mul_one]
    unfold zsum
    split
    · rw [zti_add rfl rfl (by omega) (by omega)]
      omega
    · omega
/-- a draught in numbers -/
theorem zdr_e {l t st le : Nat} {tl : Int32} (hl : l ≤ 1000000) (ht : t ≤ 1000000) (hs1 : 1 ≤ st) (hs2 : st ≤ 99) (hl1 : 1 ≤ le) (hl2 : le ≤ 999) (h : tl.toInt = t ∨ tl.toInt = -(t : Int)) : zdr (nI l) tl (nI st) (nI le) = nI ((l + st - 1) / st + t / le) := by
  unfold zdr
  have e1 : nI l + nI st - 1 = nI (l + st - 1) := by
    rw [nI_add, show l + st = (l + st - 1) + 1 by omega, ← nI_1, Nat.add_sub_cancel]
    exact Int32.add_sub_cancel _ _
  have e2 : (if tl < 0 then -tl else tl) = nI t := by
    by_cases q : tl < 0
    · have q' : tl.toInt < 0 := Int32.lt_iff_toInt_lt.mp q
      have h' : tl.toInt = -(t : Int) := by rcases h with h | h <;> omega
      rw [if_pos q]
      apply Int32.toInt_inj.mp
      rw [zti_neg h' (by omega) (by omega), nI_toInt (by omega)]
      omega
    · have q' : ¬ tl.toInt < 0 := fun e => q (Int32.lt_iff_toInt_lt.mpr e)
      have h' : tl.toInt = (t : Int) := by rcases h with h | h <;> omega
      rw [if_neg q]
      apply Int32.toInt_inj.mp
      rw [h', nI_toInt (by omega)]
  rw [e1, e2, show nI (l + st - 1) / nI st = nI ((l + st - 1) / st) from pk_div (by omega) (by omega) (by omega), show nI t / nI le = nI (t / le) from pk_div (by omega) (by omega) (by omega), nI_add]
/-- what one book makes of tilt -/
theorem ztl_b {nb nk ns nr nh b k : Nat} {S : Nat → Int32} (N : zNs nb nk ns nr nh) (O : zOK nb nk ns nr nh S) (hb : b < nb) (hk : k < nk) : -756 ≤ (ztl S b k).toInt ∧ (ztl S b k).toInt ≤ 756 := by
  obtain ⟨h, h1, h2, eh⟩ := z_hv0 N O hk
  obtain ⟨n, m1, m2, en⟩ := zk_g0 N O hb
  obtain ⟨s, hs, es⟩ := zk_b3 N O hk
  have e : ∃ v : Nat, v < n ∧ zsh S b k = nI v := by
    unfold zsh
    rw [es, en]
    by_cases q : s < n
    · rw [if_pos (nI_lt q (by omega))]
      exact ⟨s, q, rfl⟩
    · rw [if_neg (fun h => q ((nI_ltI (by omega) (by omega)).mp h))]
      refine ⟨n - 1, by omega, ?_⟩
      rw [show nI n = nI (n - 1) + 1 by rw [nI_1, show n - 1 + 1 = n by omega]]
      exact Int32.add_sub_cancel _ _
  obtain ⟨v, hv, ev⟩ := e
  unfold ztl
  rw [eh, ev, en]
  have a1 : (nI v).toInt = (v : Int) := nI_toInt (by omega)
  have a2 : (2 * nI v : Int32).toInt = 2 * (v : Int) := zti_mul rfl a1 (by omega) (by omega)
  have a3 : (2 * nI v - nI n : Int32).toInt = 2 * (v : Int) - n := zti_sub a2 (nI_toInt (by omega)) (by omega) (by omega)
  have a4 : (2 * nI v - nI n + 1 : Int32).toInt = 2 * (v : Int) - n + 1 := zti_add a3 rfl (by omega) (by omega)
  have b1 : -7 ≤ 2 * (v : Int) - n + 1 := by omega
  have b2 : 2 * (v : Int) - n + 1 ≤ 7 := by omega
  have b3 : ((h : Int) * (2 * (v : Int) - n + 1)) ≤ 756 := by
    rcases Int.le_total 0 (2 * (v : Int) - n + 1) with q | q
    · calc (h : Int) * (2 * (v : Int) - n + 1) ≤ 108 * 7 := Int.mul_le_mul (by omega) b2 q (by omega)
        _ = 756 := by omega
    · have := Int.mul_nonpos_of_nonneg_of_nonpos (show (0 : Int) ≤ h by omega) q
      omega
  have b4 : -756 ≤ ((h : Int) * (2 * (v : Int) - n + 1)) := by
    rcases Int.le_total 0 (2 * (v : Int) - n + 1) with q | q
    · have := Int.mul_nonneg (show (0 : Int) ≤ h by omega) q
      omega
    · have h7 : (h : Int) * (-(2 * (v : Int) - n + 1)) ≤ 108 * 7 := Int.mul_le_mul (by omega) (by omega) (by omega) (by omega)
      rw [Int.mul_neg] at h7
      omega
  rw [zti_mul (nI_toInt (by omega)) a4 (by omega) (by omega)]
  exact ⟨b4, b3⟩
/-- a load as a number, a tilt as a number -/
def zlN (S : Nat → Int32) (nk b : Nat) (p : Nat → Bool) : Nat := ((S (6 + 7 * b + 1)).toNatClampNeg + (S (6 + 7 * b + 4)).toNatClampNeg) + zsN (fun k => (zhv S k).toNatClampNeg) p nk
theorem zload_N {nb nk ns nr nh b : Nat} {S : Nat → Int32} (N : zNs nb nk ns nr nh) (O : zOK nb nk ns nr nh S) (hb : b < nb) (set : Int32) : zload S nk b set = nI (zlN S nk b (bt set)) ∧ zlN S nk b (bt set) ≤ 21294 := by
  obtain ⟨o, ho, eo⟩ := zk_g1 N O hb
  obtain ⟨w, hw, ew⟩ := zk_g4 N O hb
  have hf : ∀ i, i < nk → zhv S i = nI ((zhv S i).toNatClampNeg) ∧ (zhv S i).toNatClampNeg ≤ 108 := fun i hi => by
    obtain ⟨d, d1, d2, ed⟩ := z_hv0 N O hi
    rw [ed, ztnn (by omega)]
    exact ⟨rfl, d2⟩
  unfold zload zlN
  rw [eo, ew, ztnn (by omega), ztnn (by omega), nI_add, zsum_nI nk (fun i hi => (hf i hi).1)]
  have h := zsN_le (f := fun k => (zhv S k).toNatClampNeg) (p := bt set) (c := 108) nk (fun i hi => (hf i hi).2)
  have := N.2.1
  exact ⟨rfl, by omega⟩
theorem ztilt_b {nb nk ns nr nh b : Nat} {S : Nat → Int32} (N : zNs nb nk ns nr nh) (O : zOK nb nk ns nr nh S) (hb : b < nb) (set : Int32) : ∃ t : Nat, t ≤ 9072 ∧ ((ztilt S nk b set).toInt = t ∨ (ztilt S nk b set).toInt = -(t : Int)) := by
  have h := zsum_bd (f := ztl S b) (p := bt set) (a := 0) (c := 756) (A := 0) (by omega) (by omega) (by decide) nk N.2.1 (fun i hi => ztl_b N O hb hi)
  have hn := N.2.1
  refine ⟨(ztilt S nk b set).toInt.natAbs, ?_, ?_⟩
  · unfold ztilt
    omega
  · unfold ztilt
    omega
theorem zdrB_N {nb nk ns nr nh b : Nat} {S : Nat → Int32} (N : zNs nb nk ns nr nh) (O : zOK nb nk ns nr nh S) (hb : b < nb) (set : Int32) : ∃ v, v ≤ 40000 ∧ zdrB S nk b set = nI v := by
  obtain ⟨st, st1, st2, es⟩ := zk_g2 N O hb
  obtain ⟨le, le1, le2, el⟩ := zk_g3 N O hb
  obtain ⟨eL, hL⟩ := zload_N N O hb set
  obtain ⟨t, ht, et⟩ := ztilt_b N O hb set
  unfold zdrB
  rw [eL, es, el, zdr_e (t := t) (by omega) (by omega) st1 st2 le1 le2 et]
  refine ⟨_, ?_, rfl⟩
  have h1 := Nat.div_le_self (zlN S nk b (bt set) + st - 1) st
  have h2 := Nat.div_le_self t le
  omega
theorem zdrB_9 {nb nk ns nr nh b : Nat} {S : Nat → Int32} (N : zNs nb nk ns nr nh) (O : zOK nb nk ns nr nh S) (hb : b < nb) (set : Int32) : ¬ (1000000000 : Int32) < zdrB S nk b set := by
  obtain ⟨v, hv, ev⟩ := zdrB_N N O hb set
  rw [ev]
  intro h
  have := (nI_ltI (a := 1000000000) (by decide) (by omega)).mp h
  omega
