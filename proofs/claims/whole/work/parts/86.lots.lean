/-! ===== lots ===== -/
def zn6 (n : Nat) : Int64 := Int64.ofNat n
theorem zn6_i {n : Nat} (h : n < 2 ^ 63) : (zn6 n).toInt = (n : Int) := Int64.toInt_ofNat_of_lt h
theorem zn6_e {x : Int64} {n : Nat} (h : x.toInt = (n : Int)) (hn : n < 2 ^ 63) : x = zn6 n := Int64.toInt_inj.mp (by rw [h, zn6_i hn])
theorem zbm {x : Int} (h0 : 0 ≤ x) (h : x < 2 ^ 63) : x.bmod (2 ^ 64) = x := by
  rw [Int.bmod_eq_of_le (by omega) (by omega)]
theorem zn6_mul {a b : Nat} (h : a * b < 2 ^ 63) (ha : a < 2 ^ 63) (hb : b < 2 ^ 63) : zn6 a * zn6 b = zn6 (a * b) := zn6_e (by rw [Int64.toInt_mul, zn6_i ha, zn6_i hb, ← Int.natCast_mul, zbm (by omega) (by omega)]) h
theorem zn6_add {a b : Nat} (h : a + b < 2 ^ 63) : zn6 a + zn6 b = zn6 (a + b) := zn6_e (by rw [Int64.toInt_add, zn6_i (by omega), zn6_i (by omega), ← Int.natCast_add, zbm (by omega) (by omega)]) h
theorem zn6_sub {a b : Nat} (h : b ≤ a) (ha : a < 2 ^ 63) : zn6 a - zn6 b = zn6 (a - b) := zn6_e (by rw [Int64.toInt_sub, zn6_i ha, zn6_i (by omega), ← Int.natCast_sub h, zbm (by omega) (by omega)]) (by omega)
theorem zn6_div {a b : Nat} (ha : a < 2 ^ 63) (hb : b < 2 ^ 63) : zn6 a / zn6 b = zn6 (a / b) := by
  have h : a / b ≤ a := Nat.div_le_self a b
  exact zn6_e (by rw [Int64.toInt_div, zn6_i ha, zn6_i hb, ← Int.ofNat_tdiv, zbm (Int.natCast_nonneg _) (by omega)]) (by omega)
theorem zn6_mod {a b : Nat} (ha : a < 2 ^ 63) (hb : b < 2 ^ 63) : zn6 a - zn6 a / zn6 b * zn6 b = zn6 (a % b) := by
  have h : a / b * b ≤ a := Nat.div_mul_le_self a b
  have h1 : a / b ≤ a := Nat.div_le_self a b
  rw [zn6_div ha hb, zn6_mul (by omega) (by omega) hb, zn6_sub h ha]
  have h2 := Nat.div_add_mod a b
  rw [Nat.mul_comm] at h2
  rw [show a - a / b * b = a % b by omega]
theorem zn6_nI {n : Nat} (h : n < 2 ^ 31) : (nI n).toInt64 = zn6 n := zn6_e (by rw [Int32.toInt_toInt64, nI_toInt h]) (by omega)
theorem zn6_32 {n : Nat} (h : n < 2 ^ 31) : (zn6 n).toInt32 = nI n := by
  apply Int32.toInt_inj.mp
  rw [Int64.toInt_toInt32, zn6_i (by omega), nI_toInt h]
  rw [Int.bmod_eq_of_le (by omega) (by omega)]
theorem zn6_and {n : Nat} (h : n < 2 ^ 63) : zn6 n &&& 2147483647 = zn6 (n % 2147483648) := by
  apply Int64.toBitVec_inj.mp
  rw [Int64.toBitVec_and]
  apply BitVec.eq_of_toNat_eq
  rw [BitVec.toNat_and]
  have e1 : ∀ m, m < 2 ^ 63 → (zn6 m).toBitVec.toNat = m := fun m hm => by
    show (BitVec.ofNat 64 m).toNat = m
    rw [BitVec.toNat_ofNat, Nat.mod_eq_of_lt (by omega)]
  have e2 : (2147483647 : Int64).toBitVec.toNat = 2 ^ 31 - 1 := by decide
  rw [e1 n h, e2, Nat.and_two_pow_sub_one_eq_mod, e1 _ (by omega)]
theorem zI_divn {a b : Nat} (ha : a < 2 ^ 31) (hb : b < 2 ^ 31) : nI a / nI b = nI (a / b) := by
  have h : a / b ≤ a := Nat.div_le_self a b
  apply Int32.toInt_inj.mp
  rw [Int32.toInt_div, nI_toInt ha, nI_toInt hb, nI_toInt (by omega), ← Int.ofNat_tdiv]
  generalize a / b = z at h ⊢
  rw [Int.bmod_eq_of_le (by omega) (by omega)]
theorem zI_muln {a b : Nat} (h : a * b < 2 ^ 31) (ha : a < 2 ^ 31) (hb : b < 2 ^ 31) : nI a * nI b = nI (a * b) := by
  apply Int32.toInt_inj.mp
  rw [Int32.toInt_mul, nI_toInt ha, nI_toInt hb, nI_toInt h, ← Int.natCast_mul]
  rw [Int.bmod_eq_of_le (by omega) (by omega)]
theorem zI_subn {a b : Nat} (h : b ≤ a) (ha : a < 2 ^ 31) : nI a - nI b = nI (a - b) := by
  apply Int32.toInt_inj.mp
  rw [Int32.toInt_sub, nI_toInt ha, nI_toInt (by omega), nI_toInt (by omega), ← Int.natCast_sub h]
  rw [Int.bmod_eq_of_le (by omega) (by omega)]
theorem zI_modn {a b : Nat} (ha : a < 2 ^ 31) (hb : b < 2 ^ 31) : nI a - nI a / nI b * nI b = nI (a % b) := by
  have h : a / b * b ≤ a := Nat.div_mul_le_self a b
  have h1 : a / b ≤ a := Nat.div_le_self a b
  rw [zI_divn ha hb, zI_muln (by omega) (by omega) hb, zI_subn h ha]
  have h2 := Nat.div_add_mod a b
  rw [Nat.mul_comm] at h2
  rw [show a - a / b * b = a % b by omega]
def zlot (X : Nat) : Nat := (X * 1103515245 + 12345) % 2147483648
theorem zlot_lt (X : Nat) : zlot X < 2147483648 := Nat.mod_lt _ (by decide)
theorem p_drawC {w c q : Nat} (hwc : zwc w c) {ρ : (Nat → Option Nat) × (Nat → Option Nat) × List zE} {I : zTI} {J : zTJ} {X : Nat} (hX : X < 2147483648) (e : I 15 6 = nI X) : qj_draw (some w, some q, ρ) I J = some (some (.int (nI (zlot X / 65536))), (zSC (some w, some q, ρ), zsI I 15 6 (nI (zlot X)), J)) := by
  have h := zlot_lt X
  have e1 : ((((I 15 6).toInt64) * 1103515245 + 12345) &&& 2147483647).toInt32 = nI (zlot X) := by
    rw [e, zn6_nI (by omega), show (1103515245 : Int64) = zn6 1103515245 from rfl, zn6_mul (by omega) (by omega) (by omega), show (12345 : Int64) = zn6 12345 from rfl, zn6_add (by omega), zn6_and (by omega), zn6_32 (by omega)]
    rfl
  rw [t_qj_draw w c q hwc, e1, show (65536 : Int32) = nI 65536 from rfl, zI_divn (by omega) (by omega)]
theorem p_drawM {I : zTI} {J : zTJ} {X n : Nat} (hX : X < 2147483648) (e : J 0 35 = zn6 X) (h0 : 0 < n) (hn : n < 2147483648) : qm_draw (nI n) I J = some (some (.int (nI (zlot X / 65536 % n))), (zSM, I, zsJ J 0 35 (zn6 (zlot X)))) := by
  have h := zlot_lt X
  have e1 : (((J 0 35) * 1103515245) + 12345) - (((J 0 35) * 1103515245) + 12345) / 2147483648 * 2147483648 = zn6 (zlot X) := by
    rw [e, show (1103515245 : Int64) = zn6 1103515245 from rfl, zn6_mul (by omega) (by omega) (by omega), show (12345 : Int64) = zn6 12345 from rfl, zn6_add (by omega), show (2147483648 : Int64) = zn6 2147483648 from rfl, zn6_mod (by omega) (by omega)]
    rfl
  have h2 := Nat.mod_lt (zlot X / 65536) h0
  rw [t_qm_draw, e1, zn6_nI (by omega), show (65536 : Int64) = zn6 65536 from rfl, zn6_div (by omega) (by omega), zn6_mod (by omega) (by omega), zn6_32 (by omega), if_neg]
  intro h'
  have h3 := congrArg Int64.toInt h'
  rw [zn6_i (by omega)] at h3
  have h4 : (0 : Int64).toInt = 0 := rfl
  omega
