/-! rows on bits, shifts and unsigned numbers, to paste: each family out of a closed proof of our own, whole with what it rests on; each by itself clean at Lean in its own claim (generation 39, form 5). Take a family whole -/
/-! ===== Int32 by its bits: bt x i ===== -/
def bt (x : Int32) (i : Nat) : Bool := x.toBitVec.getLsbD i
theorem b_ext {x y : Int32} (h : ∀ i, i < 32 → bt x i = bt y i) : x = y := Int32.toBitVec_inj.mp (BitVec.eq_of_getLsbD_eq (fun i hi => h i hi))
theorem b_or (x y : Int32) (i : Nat) : bt (x ||| y) i = (bt x i || bt y i) := by unfold bt; rw [Int32.toBitVec_or, BitVec.getLsbD_or]
theorem b_and (x y : Int32) (i : Nat) : bt (x &&& y) i = (bt x i && bt y i) := by unfold bt; rw [Int32.toBitVec_and, BitVec.getLsbD_and]
theorem b_xor (x y : Int32) (i : Nat) : bt (x ^^^ y) i = (bt x i ^^ bt y i) := by unfold bt; rw [Int32.toBitVec_xor, BitVec.getLsbD_xor]
theorem b_big {x : Int32} {i : Nat} (h : 32 ≤ i) : bt x i = false := BitVec.getLsbD_of_ge _ _ h
theorem b_255 (i : Nat) : bt 255 i = decide (i < 8) := by
  rcases Nat.lt_or_ge i 32 with h | h
  · exact (by decide +kernel : ∀ i, i < 32 → bt 255 i = decide (i < 8)) i h
  · rw [b_big h, decide_eq_false (by omega)]
theorem b_65535 (i : Nat) : bt 65535 i = decide (i < 16) := by
  rcases Nat.lt_or_ge i 32 with h | h
  · exact (by decide +kernel : ∀ i, i < 32 → bt 65535 i = decide (i < 16)) i h
  · rw [b_big h, decide_eq_false (by omega)]
theorem b_m1 : ∀ i, i < 32 → bt (-1) i = true := by decide +kernel
theorem b_0 (i : Nat) : bt 0 i = false := BitVec.getLsbD_zero
theorem s_l : ∀ n, n < 32 → ((nI n &&& 31).toBitVec.smod 32).toNat = n := by decide +kernel
theorem s_u : ∀ n, n < 32 → (((nI n).toUInt32 &&& Int32.toUInt32 31).toBitVec % 32).toNat = n := by decide +kernel
theorem b_shl (n : Nat) (hn : n < 32) (x : Int32) {i : Nat} (hi : i < 32) : bt (x <<< (nI n &&& 31)) i = (decide (n ≤ i) && bt x (i - n)) := by
  unfold bt
  rw [Int32.toBitVec_shiftLeft]
  show (x.toBitVec <<< ((nI n &&& 31).toBitVec.smod 32).toNat).getLsbD i = _
  rw [s_l n hn, BitVec.getLsbD_shiftLeft]
  rcases Nat.lt_or_ge i n with h | h
  · simp [h, Nat.not_le.mpr h]
  · simp [hi, h, Nat.not_lt.mpr h]
theorem b_ushr (n : Nat) (hn : n < 32) (x : Int32) (i : Nat) : bt ((x.toUInt32 >>> ((nI n).toUInt32 &&& Int32.toUInt32 31)).toInt32) i = bt x (n + i) := by
  show (x.toUInt32 >>> ((nI n).toUInt32 &&& Int32.toUInt32 31)).toBitVec.getLsbD i = x.toUInt32.toBitVec.getLsbD (n + i)
  rw [UInt32.toBitVec_shiftRight]
  show (x.toUInt32.toBitVec >>> (((nI n).toUInt32 &&& Int32.toUInt32 31).toBitVec % 32).toNat).getLsbD i = _
  rw [s_u n hn, BitVec.getLsbD_ushiftRight]
theorem b_sshr (n : Nat) (hn : n < 32) (x : Int32) {i : Nat} (hi : i < 32) : bt (x >>> (nI n &&& 31)) i = if n + i < 32 then bt x (n + i) else bt x 31 := by
  unfold bt
  rw [Int32.toBitVec_shiftRight]
  show (x.toBitVec.sshiftRight ((nI n &&& 31).toBitVec.smod 32).toNat).getLsbD i = _
  rw [s_l n hn, BitVec.getLsbD_sshiftRight, BitVec.msb_eq_getLsbD_last]
  simp [hi]
theorem b_shl8 (x : Int32) {i : Nat} (hi : i < 32) : bt (x <<< ((8 : Int32) &&& 31)) i = (decide (8 ≤ i) && bt x (i - 8)) := b_shl 8 (by omega) x hi
/-- a set of the k < n with p k -/
def zset (p : Nat → Bool) : Nat → Int32
  | 0 => 0
  | n + 1 => if p n then zset p n ||| ((1 : Int32) <<< (nI n &&& 31)) else zset p n
theorem b_one : ∀ i, i < 32 → bt 1 i = decide (i = 0) := by decide +kernel
theorem b_zset (p : Nat → Bool) : ∀ n, n ≤ 32 → ∀ i, i < 32 → bt (zset p n) i = (decide (i < n) && p i)
  | 0, _, i, _ => by rw [show zset p 0 = 0 from rfl, b_0]; simp
  | n + 1, hn, i, hi => by
    have ih := b_zset p n (by omega) i hi
    unfold zset
    by_cases h : p n = true
    · rw [if_pos h, b_or, ih, b_shl n (by omega) 1 hi]
      by_cases e : i = n
      · subst e
        rw [b_one _ (by omega)]
        simp [h]
      · by_cases l : i < n
        · simp [l, show ¬ n ≤ i by omega, show i < n + 1 by omega]
        · rw [b_one _ (by omega)]
          simp [l, show ¬ i - n = 0 by omega, show ¬ i < n + 1 by omega]
    · rw [if_neg h, ih]
      by_cases e : i = n
      · subst e
        simp [h]
      · have : (decide (i < n)) = decide (i < n + 1) := by
          by_cases l : i < n
          · simp [l, show i < n + 1 by omega]
          · simp [l, show ¬ i < n + 1 by omega]
        rw [this]
theorem z_isOf {x : Int32} {k : Nat} (hk : k < 32) : ((x >>> (nI k &&& 31)) &&& 1 = 1) ↔ bt x k = true := by
  constructor
  · intro h
    have := congrArg (fun y => bt y 0) h
    simp only [b_and, b_one 0 (by omega)] at this
    rw [b_sshr k hk x (by omega)] at this
    rw [if_pos (by omega)] at this
    simpa using this
  · intro h
    apply b_ext
    intro i hi
    rw [b_and, b_one i hi, b_sshr k hk x hi]
    by_cases e : i = 0
    · subst e
      rw [if_pos (by omega)]
      simpa using h
    · simp [e]
theorem p_isOf {x : Int32} {k : Nat} (hk : k < 32) (I : zTI) (J : zTJ) : qm_isOf x (nI k) I J = some (some (.int (if bt x k then 1 else 0)), (zSM, I, J)) := by
  rw [t_qm_isOf]
  by_cases h : bt x k = true
  · rw [if_pos ((z_isOf hk).mpr h), if_pos h]
  · rw [if_neg (fun q => h ((z_isOf hk).mp q)), if_neg h]
theorem z_or0 (x : Int32) : x ||| 0 = x := by
  apply b_ext
  intro i _
  rw [b_or, b_0, Bool.or_false]
theorem z_add0 (x : Int32) : x + 0 = x := Int32.add_zero x
/-- the reference's accessors -/
theorem p_bookOf {I : zTI} {J : zTJ} {k j : Nat} {y : Int32} (hy : y = nI j) (hk : k < 12) (hj : j < 7) : qm_bookOf (nI k) y I J = some (some (.int (I 10 (20 + 7 * k + j))), (zSM, I, J)) := by
  rw [t_qm_bookOf, show ((20 : Int32) + 7 * nI k) + y = nI (20 + 7 * k + j) from zid (c := 0) hy, zif_n (by omega) (by omega), ztnn (by omega)]
theorem p_bargeOf {I : zTI} {J : zTJ} {b j : Nat} {y : Int32} (hy : y = nI j) (hb : b < 2) (hj : j < 7) : qm_bargeOf (nI b) y I J = some (some (.int (I 10 (6 + 7 * b + j))), (zSM, I, J)) := by
  rw [t_qm_bargeOf, show ((6 : Int32) + 7 * nI b) + y = nI (6 + 7 * b + j) from zid (c := 0) hy, zif_n (by omega) (by omega), ztnn (by omega)]
theorem p_isAboard {I : zTI} {J : zTJ} {k b : Nat} (hk : k < 12) : qm_isAboard (nI k) (nI b) I J = some (some (.int (if I 10 (20 + 7 * k + 4) = 100 + nI b then 1 else 0)), (zSM, I, J)) := by
  rw [t_qm_isAboard, p_bookOf (y := 4) (j := 4) rfl hk (by omega), zkI_s]
  split <;> rfl
/-- who is aboard -/
def zab (S : Nat → Int32) (b k : Nat) : Bool := decide (S (20 + 7 * k + 4) = 100 + nI b)
theorem p_aboardL {I : zTI} {J : zTJ} {b nk : Nat} (hn : nk ≤ 12) (s1 : I 10 1 = nI nk) : ∀ d k, k + d = nk → qm_aboardOf_4 (nI b) (zset (zab (I 10) b) k) (nI k) I J = some (some (.int (zset (zab (I 10) b) nk)), (zSM, I, J)) := by
  intro d
  induction d with
  | zero =>
    intro k hk
    rw [t_qm_aboardOf_4, s1, if_neg (fun q => by have := (nI_ltI (by omega) (by omega)).mp q; omega), show k = nk by omega]
  | succ d ih =>
    intro k hk
    rw [t_qm_aboardOf_4, s1, if_pos (nI_lt (by omega) (by omega)), p_isAboard (by omega), zkI_s, ← ih (k + 1) (by omega), nI_1]
    by_cases h : I 10 (20 + 7 * k + 4) = 100 + nI b
    · rw [if_pos h, if_neg (by decide)]
      rw [show zset (zab (I 10) b) (k + 1) = zset (zab (I 10) b) k ||| ((1 : Int32) <<< (nI k &&& 31)) from if_pos (decide_eq_true h)]
    · rw [if_neg h, if_pos rfl, z_or0]
      rw [show zset (zab (I 10) b) (k + 1) = zset (zab (I 10) b) k from if_neg (by unfold zab; rw [decide_eq_false h]; decide)]
theorem p_aboardOf {I : zTI} {J : zTJ} {b nk : Nat} (hn : nk ≤ 12) (s1 : I 10 1 = nI nk) : qm_aboardOf (nI b) I J = some (some (.int (zset (zab (I 10) b) nk)), (zSM, I, J)) := by
  rw [t_qm_aboardOf]
  exact p_aboardL hn s1 nk 0 (by omega)
/-- a sum over the k < n with p k -/
def zsum (f : Nat → Int32) (p : Nat → Bool) (a : Int32) : Nat → Int32
  | 0 => a
  | n + 1 => if p n then zsum f p a n + f n else zsum f p a n
theorem zsum_congr {f g : Nat → Int32} {p q : Nat → Bool} {a : Int32} : ∀ n, (∀ k, k < n → p k = q k ∧ (p k = true → f k = g k)) → zsum f p a n = zsum g q a n
  | 0, _ => rfl
  | n + 1, h => by
    have ih := zsum_congr (f := f) (g := g) (p := p) (q := q) (a := a) n (fun k hk => h k (by omega))
    obtain ⟨h1, h2⟩ := h n (by omega)
    unfold zsum
    rw [← h1, ih]
    by_cases e : p n = true
    · rw [if_pos e, if_pos e, h2 e]
    · rw [if_neg e, if_neg e]
def zhv (S : Nat → Int32) (k : Nat) : Int32 := S (20 + 7 * k + 0) + S (20 + 7 * k + 2)
theorem p_heavy {I : zTI} {J : zTJ} {k : Nat} (hk : k < 12) : qm_heavy (nI k) I J = some (some (.int (zhv (I 10) k)), (zSM, I, J)) := by
  rw [t_qm_heavy, p_bookOf (y := 0) (j := 0) rfl hk (by omega), zkI_s, p_bookOf (y := 2) (j := 2) rfl hk (by omega), zkI_s]
  rfl
theorem p_loadL {I : zTI} {J : zTJ} {nk : Nat} {set a : Int32} (hn : nk ≤ 12) (s1 : I 10 1 = nI nk) : ∀ d k, k + d = nk → qm_loadBy_17 set (zsum (zhv (I 10)) (bt set) a k) (nI k) I J = some (some (.int (zsum (zhv (I 10)) (bt set) a nk)), (zSM, I, J)) := by
  intro d
  induction d with
  | zero =>
    intro k hk
    rw [t_qm_loadBy_17, s1, if_neg (fun q => by have := (nI_ltI (by omega) (by omega)).mp q; omega), show k = nk by omega]
  | succ d ih =>
    intro k hk
    rw [t_qm_loadBy_17, s1, if_pos (nI_lt (by omega) (by omega)), p_isOf (by omega), zkI_s, ← ih (k + 1) (by omega), nI_1]
    by_cases h : bt set k = true
    · rw [if_pos h, if_neg (by decide), p_heavy (by omega), zkI_s, show zsum (zhv (I 10)) (bt set) a (k + 1) = zsum (zhv (I 10)) (bt set) a k + zhv (I 10) k from if_pos h]
    · rw [if_neg h, if_pos rfl, z_add0, show zsum (zhv (I 10)) (bt set) a (k + 1) = zsum (zhv (I 10)) (bt set) a k from if_neg h]
theorem p_loadBy {I : zTI} {J : zTJ} {nk b : Nat} {set : Int32} (hb : b < 2) (hn : nk ≤ 12) (s1 : I 10 1 = nI nk) : qm_loadBy (nI b) set I J = some (some (.int (zsum (zhv (I 10)) (bt set) (I 10 (6 + 7 * b + 1) + I 10 (6 + 7 * b + 4)) nk)), (zSM, I, J)) := by
  rw [t_qm_loadBy, p_bargeOf (y := 1) (j := 1) rfl hb (by omega), zkI_s, p_bargeOf (y := 4) (j := 4) rfl hb (by omega), zkI_s]
  exact p_loadL hn s1 nk 0 (by omega)
/-- the class's -/
theorem p_cellk {w c : Nat} (hwc : zwc w c) {a k : Nat} {y : Int32} (hy : y = nI a) (h : a + k < 251) (σ : zSg) (I : zTI) (J : zTJ) : qw_cell w y (nI k) σ I J = some (some (.int (I c (a + k))), (zSC σ, I, J)) := p_cell hwc (by subst hy; exact nI_add a k) h σ I J
theorem zif_k {a k m : Nat} {y : Int32} {x : Option zR} (hy : y = nI a) (h : a + k < m) (hm : m < 2 ^ 31) : zif (zin (y + nI k) m) x = x := by subst hy; rw [nI_add]; exact zif_n h hm
theorem ztn_k {a k : Nat} {y : Int32} (hy : y = nI a) (h : a + k < 2 ^ 31) : (y + nI k).toNatClampNeg = a + k := by subst hy; rw [nI_add]; exact ztnn h
def zhw (C : Nat → Int32) (k : Nat) : Int32 := C (97 + k) + C (35 + k)
def zaw (C : Nat → Int32) (b k : Nat) : Bool := decide (C (47 + k) = 100 + nI b)
theorem p_loadOfL {w c : Nat} (hwc : zwc w c) {σ : zSg} {I : zTI} {J : zTJ} {b nk : Nat} {a : Int32} (hn : nk ≤ 12) (c1 : I c 85 = nI nk) : ∀ d k, k + d = nk → qw_loadOf_17 w (nI b) (zsum (zhw (I c)) (zaw (I c) b) a k) (nI k) σ I J = some (some (.int (zsum (zhw (I c)) (zaw (I c) b) a nk)), (zSC σ, I, J)) := by
  intro d
  induction d with
  | zero =>
    intro k hk
    rw [t_qw_loadOf_17 w _ _ _ c hwc, c1, if_neg (fun q => by have := (nI_ltI (by omega) (by omega)).mp q; omega), show k = nk by omega]
  | succ d ih =>
    intro k hk
    rw [t_qw_loadOf_17 w _ _ _ c hwc, c1, if_pos (nI_lt (by omega) (by omega)), zif_k (y := 47) (a := 47) rfl (by omega) (by omega), ztn_k (y := 47) (a := 47) rfl (by omega), zif_k (y := 97) (a := 97) rfl (by omega) (by omega), zif_k (y := 35) (a := 35) rfl (by omega) (by omega), ztn_k (y := 97) (a := 97) rfl (by omega), ztn_k (y := 35) (a := 35) rfl (by omega), ← ih (k + 1) (by omega), nI_1]
    by_cases h : I c (47 + k) = 100 + nI b
    · rw [if_pos h, show zsum (zhw (I c)) (zaw (I c) b) a (k + 1) = zsum (zhw (I c)) (zaw (I c) b) a k + zhw (I c) k from if_pos (decide_eq_true h)]
      rfl
    · rw [if_neg h, show zsum (zhw (I c)) (zaw (I c) b) a (k + 1) = zsum (zhw (I c)) (zaw (I c) b) a k from if_neg (by unfold zaw; rw [decide_eq_false h]; decide)]
theorem p_loadOf {w c : Nat} (hwc : zwc w c) {σ : zSg} {I : zTI} {J : zTJ} {b nk : Nat} (hb : b < 2) (hn : nk ≤ 12) (c1 : I c 85 = nI nk) : qw_loadOf w (nI b) σ I J = some (some (.int (zsum (zhw (I c)) (zaw (I c) b) (I c (91 + b) + I c (3 + b)) nk)), (zSC σ, I, J)) := by
  rw [t_qw_loadOf w _ c hwc, p_cellk hwc (y := 91) (a := 91) rfl (by omega), zkI_s, p_cellk hwc (y := 3) (a := 3) rfl (by omega), zkI_s]
  exact p_loadOfL hwc hn c1 nk 0 (by omega)
theorem z_arm (s n : Int32) : 2 * s - n + 1 = 2 * s - (n - 1) := by
  grind
