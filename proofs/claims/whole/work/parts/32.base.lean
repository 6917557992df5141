/-! ===== pure words: what trees are rewritten with ===== -/
theorem zkI_s {sh : List zE} {I : zTI} {J : zTJ} {r : Int32} {k : Int32 → zTI → zTJ → Option zR} : zkI (some (some (.int r), (sh, I, J))) sh k = k r I J := by
  unfold zkI; exact if_pos rfl
theorem zkJ_s {sh : List zE} {I : zTI} {J : zTJ} {r : Int64} {k : Int64 → zTI → zTJ → Option zR} : zkJ (some (some (.long r), (sh, I, J))) sh k = k r I J := by
  unfold zkJ; exact if_pos rfl
theorem zkV_s {sh : List zE} {I : zTI} {J : zTJ} {k : zTI → zTJ → Option zR} : zkV (some (none, (sh, I, J))) sh k = k I J := by
  unfold zkV; exact if_pos rfl
theorem zcV_s {h : zH} {k : zH → Option zR} : zcV (some (none, h)) k = k h := rfl
theorem zcI_s {h : zH} {r : Int32} {k : Int32 → zH → Option zR} : zcI (some (some (.int r), h)) k = k r h := rfl
theorem zcA_s {h : zH} {r : Nat} {k : Nat → zH → Option zR} : zcA (some (some (.ref r), h)) k = k r h := rfl
theorem zif_t {c : Bool} {x : Option zR} (h : c = true) : zif c x = x := by subst h; rfl
theorem zin_nI {n m : Nat} (h : n < m) (hm : m < 2 ^ 31) : zin (nI n) m = true := by
  unfold zin
  rw [nI_toInt (by omega)]
  simp only [Bool.and_eq_true, decide_eq_true_eq]
  omega
theorem zin_iff {i : Int32} {m : Nat} : zin i m = true ↔ 0 ≤ i.toInt ∧ i.toInt < m := by
  unfold zin; simp only [Bool.and_eq_true, decide_eq_true_eq]
theorem zif_n {n m : Nat} {x : Option zR} (h : n < m) (hm : m < 2 ^ 31) : zif (zin (nI n) m) x = x := zif_t (zin_nI h hm)
theorem zbo_0 : zbo 0 = true := by decide +kernel
theorem zbo_1 : zbo 1 = true := by decide +kernel
theorem zbo_if {c : Prop} [Decidable c] : zbo (if c then 1 else 0) = true := by split <;> decide +kernel
/-- an answer of the reference's: an int, the heap -/
abbrev zi (v : Int32) (I : zTI) (J : zTJ) : Option zR := some (some (.int v), (zSM, I, J))
abbrev zv (I : zTI) (J : zTJ) : Option zR := some (none, (zSM, I, J))
/-- of the class's -/
abbrev zI_ (v : Int32) (σ : zSg) (I : zTI) (J : zTJ) : Option zR := some (some (.int v), (zSC σ, I, J))
abbrev zV_ (σ : zSg) (I : zTI) (J : zTJ) : Option zR := some (none, (zSC σ, I, J))
theorem ztnn {n : Nat} (h : n < 2 ^ 31) : (nI n).toNatClampNeg = n := by
  show (nI n).toInt.toNat = n
  rw [nI_toInt h]; rfl
