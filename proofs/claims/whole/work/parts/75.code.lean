/-! ===== a rule's code, worked out by a stack ===== -/
theorem zsJ_at (J : zTJ) (a k : Nat) (v : Int64) : zsJ J a k v a k = v := by
  unfold zsJ
  rw [zbeq_rf]
  show (bif Nat.beq k k then v else J a k) = v
  rw [zbeq_rf]
  rfl
theorem zsJ_no (J : zTJ) (a : Nat) {k j : Nat} (v : Int64) (h : j ≠ k) : zsJ J a k v a j = J a j := by
  unfold zsJ
  rw [zbeq_rf]
  show (bif Nat.beq j k then v else J a j) = J a j
  rw [zbeq_ne h]
  rfl
theorem zob_s {sh : List zE} {I : zTI} {J : zTJ} {q k n : Nat} {rf : Nat → Option Nat} {f : (Nat → Option Nat) → Option zR} (h : sh[q]? = some (k, n, rf)) : zob (sh, I, J) q [k] f = f rf := by
  unfold zob
  show (match sh[q]? with | some e => _ | none => none) = _
  rw [h]
  show (match zhas1 [k] k with | true => f rf | false => none) = f rf
  unfold zhas1
  rw [zbeq_rf]
  rfl
theorem zar_s {sh : List zE} {I : zTI} {J : zTJ} {q k n : Nat} {rf : Nat → Option Nat} {f : Nat → (Nat → Option Nat) → Option zR} (h : sh[q]? = some (k, n, rf)) : zar (sh, I, J) q k f = f n rf := by
  unfold zar
  show (match sh[q]? with | some e => _ | none => none) = _
  rw [h]
  show (match Nat.beq k k with | true => f n rf | false => none) = f n rf
  rw [zbeq_rf]
theorem zal_s {sh : List zE} {I : zTI} {J : zTJ} {q k n : Nat} {rf : Nat → Option Nat} {f : Nat → Option zR} (h : sh[q]? = some (k, n, rf)) (hk : Nat.ble 12 k = true) : zal (sh, I, J) q f = f n := by
  unfold zal
  show (match sh[q]? with | some e => _ | none => none) = _
  rw [h]
  show (match Nat.ble 12 k with | true => f n | false => none) = f n
  rw [hk]
theorem zrf_so {a : Nat} {f : Nat → Option zR} {g : Option zR} : zrf (some a) f g = f a := rfl
/-- where a rule's parts lie -/
def zRS (sh : List zE) (q cq lq sq n m : Nat) : Prop := ∃ (k0 : Nat) (rf r1 r2 r3 r4 : Nat → Option Nat), sh[q]? = some (7, k0, rf) ∧ rf 0 = some cq ∧ rf 1 = some lq ∧ rf 2 = some sq ∧ sh[cq]? = some (13, n, r1) ∧ sh[lq]? = some (13, m, r2) ∧ sh[sq]? = some (14, 64, r3) ∧ sh[18]? = some (14, 12, r4) ∧ sq ≠ 18
theorem lg_z {x : Int64} : lg_cmp x 0 = 0 ↔ x = 0 := by
  unfold lg_cmp
  by_cases h1 : x > 0
  · rw [if_pos h1]
    exact ⟨fun h => absurd h (by decide), fun h => by subst h; exact absurd h1 (by decide)⟩
  · rw [if_neg h1]
    by_cases h2 : x = 0
    · rw [if_pos h2]
      exact ⟨fun _ => h2, fun _ => rfl⟩
    · rw [if_neg h2]
      exact ⟨fun h => absurd h (by decide), fun h => absurd h h2⟩
def zjn (t : Nat) (a b : Int64) : Int64 := if t = 200000 then a + b else if t = 200001 then a - b else if t = 200002 then a * b else if t = 200003 then (if b = 0 then 0 else a / b) else if t = 200004 then (if lg_cmp a b < 0 then 1 else 0) else if t = 200005 then (if 0 < lg_cmp a b then 0 else 1) else if t = 200006 then (if lg_cmp a b = 0 then 1 else 0) else if t = 200007 then (if lg_cmp a b < 0 then 0 else 1) else if t = 200008 then (if 0 < lg_cmp a b then 1 else 0) else if t = 200009 then a &&& b else a ||| b
theorem z_iff {x : Nat} {y : Int32} {z : Nat} (hx : x < 2 ^ 31) (hy : y = nI z) (hz : z < 2 ^ 31) {α : Type} (a b : α) : (if nI x = y then a else b) = if x = z then a else b := by
  subst hy
  by_cases q : x = z
  · rw [if_pos q, if_pos (by rw [q])]
  · rw [if_neg q, if_neg (fun h => q (znI hx hz h))]
theorem p_joined {t : Nat} {a b : Int64} {sh : List zE} {I : zTI} {J : zTJ} (ht : t < 2 ^ 31) : ql_joined (nI t) a b sh I J = some (some (.long (zjn t a b)), (sh, I, J)) := by
  rw [t_ql_joined]
  unfold zjn
  rw [z_iff ht (show (200000 : Int32) = nI 200000 from rfl) (by omega), z_iff ht (show (200001 : Int32) = nI 200001 from rfl) (by omega), z_iff ht (show (200002 : Int32) = nI 200002 from rfl) (by omega), z_iff ht (show (200003 : Int32) = nI 200003 from rfl) (by omega), z_iff ht (show (200004 : Int32) = nI 200004 from rfl) (by omega), z_iff ht (show (200005 : Int32) = nI 200005 from rfl) (by omega), z_iff ht (show (200006 : Int32) = nI 200006 from rfl) (by omega), z_iff ht (show (200007 : Int32) = nI 200007 from rfl) (by omega), z_iff ht (show (200008 : Int32) = nI 200008 from rfl) (by omega), z_iff ht (show (200009 : Int32) = nI 200009 from rfl) (by omega)]
  by_cases q200000 : t = 200000
  · rw [if_pos q200000, if_pos q200000]
  rw [if_neg q200000, if_neg q200000]
  by_cases q200001 : t = 200001
  · rw [if_pos q200001, if_pos q200001]
  rw [if_neg q200001, if_neg q200001]
  by_cases q200002 : t = 200002
  · rw [if_pos q200002, if_pos q200002]
  rw [if_neg q200002, if_neg q200002]
  by_cases q200003 : t = 200003
  · rw [if_pos q200003, if_pos q200003]
    by_cases q : b = 0
    · rw [if_pos (lg_z.mpr q), if_pos q]
    · rw [if_neg (fun h => q (lg_z.mp h)), if_neg q, if_neg q]
  rw [if_neg q200003, if_neg q200003]
  by_cases q200004 : t = 200004
  · rw [if_pos q200004, if_pos q200004]
    by_cases q : lg_cmp a b < 0
    · rw [if_pos q, if_pos q]
    · rw [if_neg q, if_neg q]
  rw [if_neg q200004, if_neg q200004]
  by_cases q200005 : t = 200005
  · rw [if_pos q200005, if_pos q200005]
    by_cases q : (0 : Int32) < lg_cmp a b
    · rw [if_pos q, if_pos q]
    · rw [if_neg q, if_neg q]
  rw [if_neg q200005, if_neg q200005]
  by_cases q200006 : t = 200006
  · rw [if_pos q200006, if_pos q200006]
    by_cases q : lg_cmp a b = 0
    · rw [if_pos q, if_pos q]
    · rw [if_neg q, if_neg q]
  rw [if_neg q200006, if_neg q200006]
  by_cases q200007 : t = 200007
  · rw [if_pos q200007, if_pos q200007]
    by_cases q : lg_cmp a b < 0
    · rw [if_pos q, if_pos q]
    · rw [if_neg q, if_neg q]
  rw [if_neg q200007, if_neg q200007]
  by_cases q200008 : t = 200008
  · rw [if_pos q200008, if_pos q200008]
    by_cases q : (0 : Int32) < lg_cmp a b
    · rw [if_pos q, if_pos q]
    · rw [if_neg q, if_neg q]
  rw [if_neg q200008, if_neg q200008]
  by_cases q200009 : t = 200009
  · rw [if_pos q200009, if_pos q200009]
  · rw [if_neg q200009, if_neg q200009]
/-- how the reference writes a joint -/
def zjs (t : Nat) : Nat := if t = 200011 then 11 else if t < 200009 then t - 199998 else t - 199997
theorem p_one {t : Nat} {a b : Int64} {I : zTI} {J : zTJ} (h1 : 200000 ≤ t) (h2 : t ≤ 200010) : qm_one (nI (zjs t)) a b I J = some (some (.long (zjn t a b)), (zSM, I, J)) := by
  have ht : zjs t < 2 ^ 31 := by
    unfold zjs
    split
    · omega
    · split <;> omega
  rw [t_qm_one]
  rw [z_iff ht (show (2 : Int32) = nI 2 from rfl) (by omega), z_iff ht (show (3 : Int32) = nI 3 from rfl) (by omega), z_iff ht (show (4 : Int32) = nI 4 from rfl) (by omega), z_iff ht (show (5 : Int32) = nI 5 from rfl) (by omega), z_iff ht (show (6 : Int32) = nI 6 from rfl) (by omega), z_iff ht (show (7 : Int32) = nI 7 from rfl) (by omega), z_iff ht (show (8 : Int32) = nI 8 from rfl) (by omega), z_iff ht (show (9 : Int32) = nI 9 from rfl) (by omega), z_iff ht (show (10 : Int32) = nI 10 from rfl) (by omega), z_iff ht (show (11 : Int32) = nI 11 from rfl) (by omega), z_iff ht (show (12 : Int32) = nI 12 from rfl) (by omega)]
  have key : ∀ k, k ≤ 10 → t = 200000 + k → zjs t = if k < 9 then k + 2 else k + 3 := by
    intro k hk e
    subst e
    unfold zjs
    rw [if_neg (by omega)]
    by_cases q : k < 9
    · rw [if_pos q, if_pos (by omega)]
      omega
    · rw [if_neg q, if_neg (by omega)]
      omega
  obtain ⟨k, hk, e⟩ : ∃ k, k ≤ 10 ∧ t = 200000 + k := ⟨t - 200000, by omega, by omega⟩
  rw [key k hk e, e]
  unfold zjn
  rcases (show k = 0 ∨ k = 1 ∨ k = 2 ∨ k = 3 ∨ k = 4 ∨ k = 5 ∨ k = 6 ∨ k = 7 ∨ k = 8 ∨ k = 9 ∨ k = 10 by omega) with rfl | rfl | rfl | rfl | rfl | rfl | rfl | rfl | rfl | rfl | rfl
  · rfl
  · rfl
  · rfl
  · show (if lg_cmp b 0 = 0 then some (some (Value.long 0), (zSM, I, J)) else if b = 0 then none else some (some (Value.long (a / b)), (zSM, I, J))) = some (some (Value.long (if b = 0 then 0 else a / b)), (zSM, I, J))
    by_cases q : b = 0
    · rw [if_pos (lg_z.mpr q), if_pos q]
    · rw [if_neg (fun h => q (lg_z.mp h)), if_neg q, if_neg q]
  · by_cases q : lg_cmp a b < 0 <;> simp [q]
  · by_cases q : 0 < lg_cmp a b <;> simp [q]
  · by_cases q : lg_cmp a b = 0 <;> simp [q]
  · by_cases q : lg_cmp a b < 0 <;> simp [q]
  · by_cases q : 0 < lg_cmp a b <;> simp [q]
  · rfl
  · rfl
/-- one element of the code -/
def zop (w : Nat → Int64) (t : Nat) (vs : List Int64) : List Int64 := if t < 100000 then (nI t).toInt64 :: vs else if t < 200000 then w (t - 100000) :: vs else if t = 200011 then (match vs with | a :: r => (1 - a) :: r | [] => []) else (match vs with | b :: a :: r => zjn t a b :: r | _ => vs)
def zgo (w : Nat → Int64) : List Nat → List Int64 → List Int64
  | [], vs => vs
  | t :: l, vs => zgo w l (zop w t vs)
/-- of what kind the values are: true for tests -/
def zty : List Nat → List Bool → Option (List Bool)
  | [], ty => some ty
  | t :: l, ty => if t < 200000 then zty l (false :: ty) else if t = 200011 then (match ty with | true :: r => zty l (true :: r) | _ => none) else if t < 200004 then (match ty with | false :: false :: r => zty l (false :: r) | _ => none) else if t < 200009 then (match ty with | false :: false :: r => zty l (true :: r) | _ => none) else (match ty with | true :: true :: r => zty l (true :: r) | _ => none)
def znv : List Nat → Nat
  | [] => 0
  | t :: l => (if t < 200000 then 1 else 0) + znv l
def zvt (t : Nat) : Prop := t < 100012 ∨ (200000 ≤ t ∧ t ≤ 200011)
/-- what lies on a stack -/
def zstk (f : Nat → Int64) : List Int64 → Prop
  | [] => True
  | v :: r => f r.length = v ∧ zstk f r
theorem zstk_c {f g : Nat → Int64} : ∀ vs : List Int64, zstk f vs → (∀ k, k < vs.length → g k = f k) → zstk g vs
  | [], _, _ => trivial
  | v :: r, h, hc => ⟨by rw [hc r.length (by simp)]; exact h.1, zstk_c r h.2 (fun k hk => hc k (by simp; omega))⟩
/-- tests are 0 or 1 -/
def zbv : List Bool → List Int64 → Prop
  | [], [] => True
  | t :: ty, v :: vs => (t = true → v = 0 ∨ v = 1) ∧ zbv ty vs
  | _, _ => False
theorem zbv_len : ∀ (ty : List Bool) (vs : List Int64), zbv ty vs → vs.length = ty.length
  | [], [], _ => rfl
  | [], _ :: _, h => absurd h (by unfold zbv; exact id)
  | _ :: _, [], h => absurd h (by unfold zbv; exact id)
  | t :: ty, v :: vs, h => by
    have := zbv_len ty vs h.2
    simp [this]
