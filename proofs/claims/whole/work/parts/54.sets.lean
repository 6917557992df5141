/-! ===== sets told through: one behind the other, or as a tree ===== -/
/-- the bits of M from place k on -/
def zms (k M i : Nat) : Bool := decide (k ≤ i) && M.testBit (i - k)
theorem zms_0 (M : Nat) : zms 0 M = M.testBit := by
  funext i
  unfold zms
  simp
theorem zms_even (k M : Nat) : zms k (2 * M) = zms (k + 1) M := by
  funext i
  unfold zms
  by_cases h : k + 1 ≤ i
  · rw [decide_eq_true h, decide_eq_true (show k ≤ i by omega), show i - k = i - (k + 1) + 1 by omega, Nat.testBit_succ, show 2 * M / 2 = M by omega]
  · rw [decide_eq_false h, Bool.false_and]
    by_cases h2 : k ≤ i
    · rw [show i - k = 0 by omega, Nat.testBit_zero, show 2 * M % 2 = 0 by omega]
      simp
    · rw [decide_eq_false h2, Bool.false_and]
theorem zms_odd (k M i : Nat) : zms k (2 * M + 1) i = if i = k then true else zms (k + 1) M i := by
  unfold zms
  by_cases e : i = k
  · subst e
    rw [if_pos rfl, decide_eq_true (Nat.le_refl i), Nat.sub_self, Nat.testBit_zero, show (2 * M + 1) % 2 = 1 by omega]
    rfl
  · rw [if_neg e]
    by_cases h : k + 1 ≤ i
    · rw [decide_eq_true h, decide_eq_true (show k ≤ i by omega), show i - k = i - (k + 1) + 1 by omega, Nat.testBit_succ, show (2 * M + 1) / 2 = M by omega]
    · rw [decide_eq_false h, decide_eq_false (show ¬ k ≤ i by omega)]
      rfl
theorem zms_at (k M : Nat) : zms (k + 1) M k = false := by
  unfold zms
  rw [decide_eq_false (by omega), Bool.false_and]
theorem zms_div {k m : Nat} (i : Nat) : zms k (m / 2 ^ k) i = (decide (k ≤ i) && m.testBit i) := by
  unfold zms
  by_cases h : k ≤ i
  · rw [decide_eq_true h, Nat.testBit_div_two_pow, show i - k + k = i by omega]
  · rw [decide_eq_false h, Bool.false_and, Bool.false_and]
section
variable {α : Type} (step : α → Nat → α)
def zdfs : Nat → Nat → α → α
  | 0, M, s => step s M
  | k + 1, M, s => zdfs k (2 * M + 1) (zdfs k (2 * M) s)
def zfo (lo : Nat) : Nat → α → α
  | 0, s => s
  | n + 1, s => step (zfo lo n s) (lo + n)
theorem zfo_add (lo a : Nat) (s : α) : ∀ b, zfo step lo (a + b) s = zfo step (lo + a) b (zfo step lo a s)
  | 0 => rfl
  | b + 1 => by
    show step (zfo step lo (a + b) s) (lo + (a + b)) = step (zfo step (lo + a) b (zfo step lo a s)) (lo + a + b)
    rw [zfo_add lo a s b, Nat.add_assoc]
theorem zdfs_fo : ∀ (k M : Nat) (s : α), zdfs step k M s = zfo step (M * 2 ^ k) (2 ^ k) s
  | 0, M, s => by
    show step s M = step s (M * 2 ^ 0 + 0)
    rw [Nat.pow_zero, Nat.mul_one, Nat.add_zero]
  | k + 1, M, s => by
    show zdfs step k (2 * M + 1) (zdfs step k (2 * M) s) = _
    rw [zdfs_fo k, zdfs_fo k, Nat.pow_succ, show 2 ^ k * 2 = 2 ^ k + 2 ^ k by omega, zfo_add, show M * (2 ^ k + 2 ^ k) = 2 * M * 2 ^ k by rw [Nat.mul_add, show 2 * M * 2 ^ k = 2 * (M * 2 ^ k) by rw [Nat.mul_assoc]]; omega, show (2 * M + 1) * 2 ^ k = 2 * M * 2 ^ k + 2 ^ k by rw [Nat.add_mul, Nat.one_mul]]
theorem zdfs_id : ∀ (k M : Nat) (s : α), (∀ m, m / 2 ^ k = M → step s m = s) → zdfs step k M s = s
  | 0, M, s, h => h M (by rw [Nat.pow_zero, Nat.div_one])
  | k + 1, M, s, h => by
    have hd : ∀ m, m / 2 ^ k / 2 = m / 2 ^ (k + 1) := fun m => by rw [Nat.div_div_eq_div_mul, ← Nat.pow_succ]
    show zdfs step k (2 * M + 1) (zdfs step k (2 * M) s) = s
    rw [zdfs_id k (2 * M) s (fun m e => h m (by rw [← hd, e]; omega)), zdfs_id k (2 * M + 1) s (fun m e => h m (by rw [← hd, e]; omega))]
end
/-- a sum of numbers -/
def zsN (f : Nat → Nat) (p : Nat → Bool) : Nat → Nat
  | 0 => 0
  | n + 1 => if p n then zsN f p n + f n else zsN f p n
theorem zsN_mono {f : Nat → Nat} {p q : Nat → Bool} : ∀ n, (∀ i, i < n → p i = true → q i = true) → zsN f p n ≤ zsN f q n
  | 0, _ => Nat.le_refl 0
  | n + 1, h => by
    have ih := zsN_mono (f := f) n (fun i hi => h i (by omega))
    unfold zsN
    by_cases e : p n = true
    · rw [if_pos e, if_pos (h n (by omega) e)]
      omega
    · rw [if_neg e]
      split <;> omega
theorem zsN_congr {f : Nat → Nat} {p q : Nat → Bool} : ∀ n, (∀ i, i < n → p i = q i) → zsN f p n = zsN f q n
  | 0, _ => rfl
  | n + 1, h => by
    unfold zsN
    rw [zsN_congr n (fun i hi => h i (by omega)), h n (by omega)]
theorem zsN_le {f : Nat → Nat} {p : Nat → Bool} {c : Nat} : ∀ n, (∀ i, i < n → f i ≤ c) → zsN f p n ≤ c * n
  | 0, _ => Nat.zero_le _
  | n + 1, h => by
    have ih := zsN_le (f := f) (p := p) n (fun i hi => h i (by omega))
    have := h n (by omega)
    unfold zsN
    rw [Nat.mul_add]
    split <;> omega
theorem zsN_flip {f : Nat → Nat} {p q : Nat → Bool} {k : Nat} (hp : p k = false) (hq : q k = true) (h : ∀ i, i ≠ k → p i = q i) : ∀ n, k < n → zsN f q n = zsN f p n + f k
  | 0, hk => absurd hk (by omega)
  | n + 1, hk => by
    unfold zsN
    by_cases e : k = n
    · subst e
      rw [if_pos hq, if_neg (by rw [hp]; decide), zsN_congr k (p := q) (q := p) (fun i hi => (h i (by omega)).symm)]
    · rw [zsN_flip hp hq h n (by omega), h n (by omega)]
      split <;> omega
theorem zcnt_N (p : Nat → Bool) : ∀ n, zcnt p n = zsN (fun _ => 1) p n
  | 0 => rfl
  | n + 1 => by
    unfold zcnt zsN
    rw [zcnt_N p n]
/-- the same of Int32 -/
theorem zsum_flip {f : Nat → Int32} {p q : Nat → Bool} {a : Int32} {k : Nat} (hp : p k = false) (hq : q k = true) (h : ∀ i, i ≠ k → p i = q i) : ∀ n, k < n → zsum f q a n = zsum f p a n + f k
  | 0, hk => absurd hk (by omega)
  | n + 1, hk => by
    unfold zsum
    by_cases e : k = n
    · subst e
      rw [if_pos hq, if_neg (by rw [hp]; decide), zsum_congr k (f := f) (g := f) (p := q) (q := p) (a := a) (fun i hi => ⟨(h i (by omega)).symm, fun _ => rfl⟩)]
    · rw [zsum_flip hp hq h n (by omega), h n (by omega)]
      split
      · grind
      · rfl
theorem zsum_nI {f : Nat → Nat} {g : Nat → Int32} {p : Nat → Bool} {a : Nat} : ∀ n, (∀ i, i < n → g i = nI (f i)) → zsum g p (nI a) n = nI (a + zsN f p n)
  | 0, _ => rfl
  | n + 1, h => by
    unfold zsum zsN
    rw [zsum_nI n (fun i hi => h i (by omega)), h n (by omega)]
    split
    · rw [nI_add, Nat.add_assoc]
    · rfl
/-- nothing in the sum -/
theorem zsum_none {f : Nat → Int32} {p : Nat → Bool} {a : Int32} : ∀ n, (∀ i, i < n → p i = false) → zsum f p a n = a
  | 0, _ => rfl
  | n + 1, h => by
    unfold zsum
    rw [if_neg (by rw [h n (by omega)]; decide), zsum_none n (fun i hi => h i (by omega))]
theorem zms_zero (k i : Nat) : zms k 0 i = false := by
  unfold zms
  rw [Nat.zero_testBit, Bool.and_false]
/-- bits of a number as an int -/
theorem bt_nI {m i : Nat} (hi : i < 32) : bt (nI m) i = m.testBit i := by
  unfold bt
  show (Int32.ofNat m).toBitVec.getLsbD i = m.testBit i
  rw [Int32.toBitVec_ofNat', BitVec.getLsbD_ofNat, decide_eq_true hi, Bool.true_and]
theorem b_not {x : Int32} {i : Nat} (hi : i < 32) : bt (x ^^^ (-1)) i = !bt x i := by
  rw [b_xor, b_m1 i hi, Bool.xor_true]
/-- the bits counted -/
def zpc : Nat → Nat → Nat
  | 0, _ => 0
  | f + 1, m => if m = 0 then 0 else zpc f (m &&& (m - 1)) + 1
theorem zpc_ok1 : ∀ a, a < 64 → ∀ b, b < 64 → zpc 13 (64 * a + b) = zcnt (64 * a + b).testBit 12 := by decide +kernel
theorem zpc_ok (m : Nat) (h : m < 4096) : zpc 13 m = zcnt m.testBit 12 := by
  have := zpc_ok1 (m / 64) (by omega) (m % 64) (by omega)
  rw [Nat.div_add_mod] at this
  exact this
theorem z_and_nI (a b : Nat) : nI a &&& nI b = nI (a &&& b) := by
  apply b_ext
  intro i hi
  rw [b_and, bt_nI hi, bt_nI hi, bt_nI hi, Nat.testBit_and]
theorem p_bitsL {I : zTI} {J : zTJ} : ∀ (f c m : Nat), m < 4096 → zpc f m < f → qm_bits_4 (nI c) (nI m) I J = some (some (.int (nI (c + zpc f m))), (zSM, I, J))
  | 0, c, m, hm, h => absurd h (by omega)
  | f + 1, c, m, hm, h => by
    rw [t_qm_bits_4]
    unfold zpc at h ⊢
    by_cases e : m = 0
    · subst e
      rw [if_pos (show nI 0 = 0 from rfl), if_pos rfl, Nat.add_zero]
    · rw [if_neg e] at h
      have e1 : nI m - 1 = nI (m - 1) := by
        obtain ⟨q, rfl⟩ : ∃ q, m = q + 1 := ⟨m - 1, by omega⟩
        rw [← nI_1, Nat.add_sub_cancel]
        exact Int32.add_sub_cancel _ _
      have hl : m &&& (m - 1) ≤ m := Nat.and_le_left
      rw [if_neg (show ¬ nI m = 0 from fun q => e (znI (b := 0) (by omega) (by decide) q)), if_neg e, e1, z_and_nI, nI_1, p_bitsL f (c + 1) _ (by omega) (by omega), show c + 1 + zpc f (m &&& (m - 1)) = c + (zpc f (m &&& (m - 1)) + 1) by omega]
theorem p_bits {I : zTI} {J : zTJ} {m : Nat} (hm : m < 4096) : qm_bits (nI m) I J = some (some (.int (nI (zcnt m.testBit 12))), (zSM, I, J)) := by
  have := zcnt_le m.testBit 12
  rw [t_qm_bits, show qm_bits_4 0 (nI m) I J = _ from p_bitsL 13 0 m hm (by rw [zpc_ok m hm]; omega), zpc_ok m hm, Nat.zero_add]
/-- no bits at nk and on -/
theorem zcnt_12 {nk m : Nat} (hn : nk ≤ 12) (hm : m < 2 ^ nk) : zcnt m.testBit 12 = zcnt m.testBit nk := by
  have h : ∀ d, zcnt m.testBit (nk + d) = zcnt m.testBit nk := by
    intro d
    induction d with
    | zero => rfl
    | succ d ih =>
      rw [← Nat.add_assoc, zcnt_n, ih]
      rw [Nat.testBit_lt_two_pow (Nat.lt_of_lt_of_le hm (Nat.pow_le_pow_right (by omega) (by omega)))]
      decide
  have := h (12 - nk)
  rw [show nk + (12 - nk) = 12 by omega] at this
  exact this
theorem z_2nk {nk : Nat} (hn : nk ≤ 12) : (1 : Int32) <<< (nI nk &&& 31) = nI (2 ^ nk) := by
  exact (by decide : ∀ n, n ≤ 12 → (1 : Int32) <<< (nI n &&& 31) = nI (2 ^ n)) nk hn
theorem z_pow12 {nk : Nat} (hn : nk ≤ 12) : 2 ^ nk ≤ 4096 := Nat.pow_le_pow_right (by omega) hn
/-- a set with one more -/
theorem z_or1 {m k : Nat} (hk : k < 12) : nI (2 * m * 2 ^ k) ||| ((1 : Int32) <<< (nI k &&& 31)) = nI ((2 * m + 1) * 2 ^ k) := by
  apply b_ext
  intro i hi
  rw [b_or, bt_nI hi, bt_nI hi, b_shl k (by omega) 1 hi, Nat.testBit_mul_two_pow, Nat.testBit_mul_two_pow]
  by_cases e : i = k
  · subst e
    rw [Nat.sub_self, b_one 0 (by omega), Nat.testBit_zero, Nat.testBit_zero, show (2 * m + 1) % 2 = 1 by omega]
    simp
  · by_cases h : k ≤ i
    · rw [b_one _ (by omega), decide_eq_true h, decide_eq_false (show ¬ i - k = 0 by omega), show i - k = (i - k - 1) + 1 by omega, Nat.testBit_succ, Nat.testBit_succ, show 2 * m / 2 = m by omega, show (2 * m + 1) / 2 = m by omega]
      simp
    · rw [decide_eq_false h]
      simp
