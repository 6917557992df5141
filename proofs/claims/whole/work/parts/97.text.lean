/-! ===== the tape as a text: runs of signs ===== -/
def zruF (P : Nat → Bool) (t : Nat) : Nat → Nat → Nat
  | 0, p => p
  | d + 1, p => if p < t ∧ P p = true then zruF P t d (p + 1) else p
def zru (P : Nat → Bool) (t p : Nat) : Nat := zruF P t (t - p) p
theorem zru_y {P : Nat → Bool} {t p : Nat} (h : p < t) (hp : P p = true) : zru P t p = zru P t (p + 1) := by
  unfold zru
  rw [show t - p = (t - (p + 1)) + 1 by omega]
  show (if p < t ∧ P p = true then _ else _) = _
  rw [if_pos ⟨h, hp⟩]
theorem zru_n {P : Nat → Bool} {t p : Nat} (h : ¬ (p < t ∧ P p = true)) : zru P t p = p := by
  unfold zru
  cases t - p with
  | zero => rfl
  | succ d => exact if_neg h
theorem zru_ind {P : Nat → Bool} {t : Nat} {Q : Nat → Prop} (h0 : ∀ p, ¬ (p < t ∧ P p = true) → Q p) (h1 : ∀ p, p < t → P p = true → Q (p + 1) → Q p) : ∀ p, Q p := by
  intro p
  generalize hd : t - p = d
  induction d generalizing p with
  | zero => exact h0 p (fun h => by omega)
  | succ d ih =>
    by_cases h : p < t ∧ P p = true
    · exact h1 p h.1 h.2 (ih (p + 1) (by omega))
    · exact h0 p h
theorem zru_ge {P : Nat → Bool} {t : Nat} : ∀ p, p ≤ zru P t p := zru_ind (P := P) (t := t) (Q := fun p => p ≤ zru P t p) (fun p h => by rw [zru_n h]; exact Nat.le_refl p) (fun p h hp ih => by rw [zru_y h hp]; omega)
theorem zru_le {P : Nat → Bool} {t : Nat} : ∀ p, p ≤ t → zru P t p ≤ t := zru_ind (P := P) (t := t) (Q := fun p => p ≤ t → zru P t p ≤ t) (fun p h h' => by rw [zru_n h]; exact h') (fun p h hp ih _ => by rw [zru_y h hp]; exact ih (by omega))
theorem zru_end {P : Nat → Bool} {t : Nat} : ∀ p, ¬ (zru P t p < t ∧ P (zru P t p) = true) := zru_ind (P := P) (t := t) (Q := fun p => ¬ (zru P t p < t ∧ P (zru P t p) = true)) (fun p h => by rw [zru_n h]; exact h) (fun p h hp ih => by rw [zru_y h hp]; exact ih)
theorem zru_all {P : Nat → Bool} {t : Nat} : ∀ p i, p ≤ i → i < zru P t p → P i = true := zru_ind (P := P) (t := t) (Q := fun p => ∀ i, p ≤ i → i < zru P t p → P i = true) (fun p h i h1 h2 => by rw [zru_n h] at h2; omega) (fun p h hp ih i h1 h2 => by
  rw [zru_y h hp] at h2
  by_cases q : i = p
  · subst q; exact hp
  · exact ih i (by omega) h2)
theorem zru_id {P : Nat → Bool} {t p : Nat} : zru P t (zru P t p) = zru P t p := zru_n (zru_end p)
/-- the text in both -/
def zTxt (t : Nat) (B : Nat → Nat) (c m : Nat → Int32) : Prop := t ≤ 400 ∧ ∀ i, i < t → B i < 256 ∧ c i = nI (B i) ∧ (m i).toInt = (if B i < 128 then (B i : Int) else (B i : Int) - 256)
def zbl (B : Nat → Nat) (i : Nat) : Bool := decide (B i = 32)
def zdi (B : Nat → Nat) (i : Nat) : Bool := decide (48 ≤ B i ∧ B i ≤ 57)
def zlr (B : Nat → Nat) (i : Nat) : Bool := decide (97 ≤ B i ∧ B i ≤ 122)
def zby (B : Nat → Nat) (t p : Nat) : Int32 := if p < t then nI (B p) else -1
theorem zbv8 (v : Int32) : (v &&& 255).toInt = v.toInt % 256 ∧ v.toInt8.toInt32.toInt = (v.toInt).bmod 256 := by
  constructor
  · have e : (v &&& 255).toBitVec = v.toBitVec &&& 255#32 := rfl
    have h : (v &&& 255).toBitVec.toNat = v.toBitVec.toNat % 256 := by
      rw [e, BitVec.toNat_and]
      show _ &&& (2 ^ 8 - 1) = _
      rw [Nat.and_two_pow_sub_one_eq_mod]
    have h1 : (v &&& 255).toInt = ((v &&& 255).toBitVec).toInt := rfl
    have h2 : v.toInt = v.toBitVec.toInt := rfl
    rw [h1, h2, BitVec.toInt_eq_toNat_cond, BitVec.toInt_eq_toNat_cond, h]
    have := v.toBitVec.isLt
    split <;> split <;> omega
  · rw [Int8.toInt_toInt32, Int32.toInt_toInt8]
theorem zTxt_of {t : Nat} {I I' : zTI} (h : zTp t I I') : ∃ B, zTxt t B (I 1) (I' 1) := by
  obtain ⟨h1, h2, h3, h4⟩ := h
  refine ⟨fun i => (I 1 i).toInt.toNat, h3, fun i hi => ?_⟩
  obtain ⟨v, e1, e2⟩ := h4 i hi
  obtain ⟨a, b⟩ := zbv8 v
  show (I 1 i).toInt.toNat < 256 ∧ I 1 i = nI (I 1 i).toInt.toNat ∧ (I' 1 i).toInt = (if (I 1 i).toInt.toNat < 128 then (((I 1 i).toInt.toNat : Nat) : Int) else (((I 1 i).toInt.toNat : Nat) : Int) - 256)
  rw [e1, e2, a, b]
  have l := v.toInt_lt
  refine ⟨by omega, ?_, ?_⟩
  · apply Int32.toInt_inj.mp
    rw [nI_toInt (by omega), a]
    omega
  · rw [Int.bmod_def]
    have e : (((256 : Nat) : Int) + 1) / 2 = 128 := by decide
    split <;> split <;> omega
theorem zsI_id (I : zTI) (a k : Nat) : zsI I a k (I a k) = I := by
  rw [zsI_zrI, u_id rfl, zrI_id rfl]
theorem zsI_sI (I : zTI) (a k : Nat) (v v' : Int32) : zsI (zsI I a k v) a k v' = zsI I a k v' := by
  rw [zsI_zrI I, zsI_zrI, zrI_zrI, zrI_row, u_uu, ← zsI_zrI]
theorem zTxt_bl {t i : Nat} {B : Nat → Nat} {c m : Nat → Int32} (T : zTxt t B c m) (hi : i < t) : (c i = 32 ↔ zbl B i = true) ∧ (m i = 32 ↔ zbl B i = true) ∧ m i &&& 255 = nI (B i) := by
  obtain ⟨h1, h2, h3⟩ := T.2 i hi
  unfold zbl
  rw [decide_eq_true_iff]
  refine ⟨⟨fun h => ?_, fun h => ?_⟩, ⟨fun h => ?_, fun h => ?_⟩, ?_⟩
  · rw [h2] at h
    exact znI (b := 32) (by omega) (by omega) h
  · rw [h2, h]; rfl
  · rw [h, show (32 : Int32).toInt = 32 from rfl] at h3
    split at h3 <;> omega
  · apply Int32.toInt_inj.mp
    rw [h3, h]; rfl
  · apply Int32.toInt_inj.mp
    rw [(zbv8 (m i)).1, h3, nI_toInt (by omega)]
    split <;> omega
theorem zlt32 {x : Int32} {n : Nat} (hn : n < 2147483648) : (x < nI n ↔ x.toInt < (n : Int)) ∧ (nI n < x ↔ (n : Int) < x.toInt) := by
  constructor
  · rw [Int32.lt_iff_toInt_lt, nI_toInt (by omega)]
  · rw [Int32.lt_iff_toInt_lt, nI_toInt (by omega)]
/-- between two signs, in both -/
theorem zTxt_in {t i : Nat} {B : Nat → Nat} {c m : Nat → Int32} (T : zTxt t B c m) (hi : i < t) {a b : Nat} (ha : a ≤ 122) (hb : b ≤ 122) : (c i < nI a ↔ B i < a) ∧ (nI b < c i ↔ b < B i) ∧ (m i < nI a ∨ nI b < m i ↔ B i < a ∨ b < B i) ∧ (¬ m i < nI a → a ≤ B i → 128 ≤ B i ∨ (nI b < m i ↔ b < B i)) := by
  obtain ⟨h1, h2, h3⟩ := T.2 i hi
  refine ⟨?_, ?_, ?_, ?_⟩
  · rw [h2, nI_ltI (by omega) (by omega)]
  · rw [h2, nI_ltI (by omega) (by omega)]
  · rw [(zlt32 (by omega)).1, (zlt32 (by omega)).2, h3]
    split <;> omega
  · intro _ _
    rw [(zlt32 (by omega)).2, h3]
    split <;> omega
