/-! ===== plugs: rows told through ===== -/
theorem a_ps {d h : Nat} {x2 x3 : Int32} {σ : zSg} {I : zTI} {J : zTJ} (hh : h ≤ 4) (hd : 1 + 2 * (7 - h) < d) : zask zG (zS zG) d 30 [.ref 41, .int (nI h), .int x2, .int x3] (zSC σ, I, J) = qp_search (1 + 2 * (7 - h)) (nI h) x2 x3 σ I J := by
  have h1 : zht (zG 30) [.ref 41, .int (nI h), .int x2, .int x3] = 1 + 2 * (7 - h) := by
    show 1 + 2 * (7 - (nI h).toNatClampNeg) = 1 + 2 * (7 - h)
    rw [ztnn (by omega)]
  unfold zask
  rw [h1, show Nat.blt (1 + 2 * (7 - h)) d = true from by rw [Nat.blt_eq]; exact hd]
  rfl
/-- a row with one digit changed -/
def zup1 (r : Nat → Nat) (a k : Nat) : Nat → Nat := fun i => if i = a then k else r i
theorem zup1_at (r : Nat → Nat) (a k : Nat) : zup1 r a k a = k := if_pos rfl
theorem zup1_no {r : Nat → Nat} {a k i : Nat} (h : i ≠ a) : zup1 r a k i = r i := if_neg h
section
variable {α : Type} (step : α → (Nat → Nat) → α) (nk o : Nat)
/-- all rows with the digits ahead of the last n given -/
def zen : Nat → (Nat → Nat) → α → α
  | 0, r, s => step s r
  | n + 1, r, s => zfo (fun s k => zen n (zup1 r (o - (n + 1)) k) s) 0 nk s
theorem zfo_id {f : α → Nat → α} {s : α} : ∀ n, (∀ k, k < n → f s k = s) → zfo f 0 n s = s
  | 0, _ => rfl
  | n + 1, h => by
    show f (zfo f 0 n s) (0 + n) = s
    rw [zfo_id n (fun k hk => h k (by omega)), Nat.zero_add, h n (by omega)]
theorem zen_id : ∀ (n : Nat) (r : Nat → Nat) (s : α), n ≤ o → (∀ r', (∀ i, i < o - n → r' i = r i) → step s r' = s) → zen step nk o n r s = s
  | 0, r, s, _, h => h r (fun _ _ => rfl)
  | n + 1, r, s, hn, h => by
    show zfo _ 0 nk s = s
    refine zfo_id nk (fun k _ => ?_)
    exact zen_id n (zup1 r (o - (n + 1)) k) s (by omega) (fun r' hr => h r' (fun i hi => by rw [hr i (by omega), zup1_no (by omega)]))
end
/-- the books of a row ahead of a place -/
def zud (r : Nat → Nat) : Nat → Nat → Bool
  | 0, _ => false
  | n + 1, k => zud r n k || decide (r n = k)
def zmk (r : Nat → Nat) : Nat → Int32
  | 0 => 0
  | n + 1 => zmk r n ||| ((1 : Int32) <<< (nI (r n) &&& 31))
theorem bt_mk {r : Nat → Nat} : ∀ n k, (∀ i, i < n → r i < 12) → k < 32 → bt (zmk r n) k = zud r n k
  | 0, k, _, _ => b_0 k
  | n + 1, k, h, hk => by
    have hr := h n (by omega)
    show bt (zmk r n ||| ((1 : Int32) <<< (nI (r n) &&& 31))) k = (zud r n k || decide (r n = k))
    rw [b_or, bt_mk n k (fun i hi => h i (by omega)) hk, b_shl (r n) (by omega) 1 hk]
    congr 1
    by_cases e : r n = k
    · rw [decide_eq_true e, decide_eq_true (show r n ≤ k by omega), b_one _ (by omega), decide_eq_true (show k - r n = 0 by omega)]
      rfl
    · rw [decide_eq_false e]
      by_cases l : r n ≤ k
      · rw [b_one _ (by omega), decide_eq_false (show ¬ k - r n = 0 by omega), Bool.and_false]
      · rw [decide_eq_false l, Bool.false_and]
/-- can the first n of a row be -/
def zvl (S : Nat → Int32) (op : Nat → Nat) (r : Nat → Nat) : Nat → Bool
  | 0 => true
  | n + 1 => zvl S op r n && !zud r n (r n) && zft S (r n) (op n)
theorem zud_c {r r' : Nat → Nat} : ∀ n k, (∀ i, i < n → r' i = r i) → zud r' n k = zud r n k
  | 0, _, _ => rfl
  | n + 1, k, h => by
    unfold zud
    rw [zud_c n k (fun i hi => h i (by omega)), h n (by omega)]
theorem zmk_c {r r' : Nat → Nat} : ∀ n, (∀ i, i < n → r' i = r i) → zmk r' n = zmk r n
  | 0, _ => rfl
  | n + 1, h => by
    unfold zmk
    rw [zmk_c n (fun i hi => h i (by omega)), h n (by omega)]
theorem zvl_c {S : Nat → Int32} {op r r' : Nat → Nat} : ∀ n, (∀ i, i < n → r' i = r i) → zvl S op r' n = zvl S op r n
  | 0, _ => rfl
  | n + 1, h => by
    unfold zvl
    rw [zvl_c n (fun i hi => h i (by omega)), zud_c n _ (fun i hi => h i (by omega)), h n (by omega)]
theorem zvl_le {S : Nat → Int32} {op r : Nat → Nat} {n : Nat} : ∀ d, zvl S op r n = false → zvl S op r (n + d) = false
  | 0, h => h
  | d + 1, h => by
    show (zvl S op r (n + d) && _ && _) = false
    rw [zvl_le d h]
    rfl
def zpwt (S : Nat → Int32) (r : Nat → Nat) (n : Nat) : Nat := zsN (fun i => zwN S (r i)) (fun _ => true) n
theorem zpwt_s {S : Nat → Int32} {r : Nat → Nat} {n : Nat} : zpwt S r (n + 1) = zpwt S r n + zwN S (r n) := rfl
theorem zpwt_0 {S : Nat → Int32} {r : Nat → Nat} : zpwt S r 0 = 0 := rfl
theorem zpwt_c {S : Nat → Int32} {r r' : Nat → Nat} (n : Nat) : (∀ i, i < n → r' i = r i) → zpwt S r' n = zpwt S r n := by
  induction n with
  | zero => intro _; rw [zpwt_0, zpwt_0]
  | succ n ih =>
    intro h
    have h1 := ih (fun i hi => h i (by omega))
    have h2 := h n (by omega)
    rw [zpwt_s, zpwt_s, h1, h2]
theorem zpwt_le {S : Nat → Int32} {r : Nat → Nat} {n : Nat} : ∀ d, zpwt S r n ≤ zpwt S r (n + d)
  | 0 => Nat.le_refl _
  | d + 1 => by
    have := zpwt_le (S := S) (r := r) (n := n) d
    rw [← Nat.add_assoc, zpwt_s]
    omega
def zpst (S : Nat → Int32) (op : Nat → Nat) (o : Nat) (s : Option (Nat → Nat)) (r : Nat → Nat) : Option (Nat → Nat) :=
  if zvl S op r o = true then match s with
    | none => some r
    | some q => if zpwt S r o < zpwt S q o then some r else some q
  else s
/-- the class: the best so far -/
def zPs (S : Nat → Int32) (nd : Nat → Bool) (o : Nat) (s : Option (Nat → Nat)) (I : zTI) : Prop := match s with
  | none => I 41 5 = 1000000000
  | some r => I 41 5 = nI (zpwt S r o) ∧ zpwt S r o ≤ 396 ∧ ∀ h, h < 4 → I 46 h = (if nd h = true then nI (r (zcnt nd h)) else -1)
theorem zrg4 : zrg 0 4 4 = true := by decide
set_option maxHeartbeats 4000000 in
/-- the class's tree -/
theorem p_psearch {nb nk ns nr nh o : Nat} {S : Nat → Int32} {σ : zSg} {J : zTJ} {nd : Nat → Bool} {op : Nat → Nat} (N : zNs nb nk ns nr nh) (O : zOK nb nk ns nr nh S) (ho : zcnt nd 4 = o) (hop : ∀ h, h < 4 → nd h = true → op (zcnt nd h) = h) :
    ∀ (n h : Nat) (r : Nat → Nat) (s : Option (Nat → Nat)) (I : zTI), h + n = 4 → (∀ i, i < 4 → I 42 i = (if nd i then 1 else 0) ∧ (nd i = true → I 43 i = zset (fun k => decide (k < nk) && zft S k i) 12)) → (∀ k, k < nk → I 44 k = S (20 + 7 * k + 1)) → zPs S nd o s I → (∀ i, i < h → I 45 i = (if nd i = true then nI (r (zcnt nd i)) else -1)) → (∀ i, i < zcnt nd h → r i < nk) → zvl S op r (zcnt nd h) = true →
      ∃ I1, qp_search (1 + 2 * (7 - h)) (nI h) (nI (zpwt S r (zcnt nd h))) (zmk r (zcnt nd h)) σ I J = some (none, (zSC σ, I1, J)) ∧ (∀ i, i ≠ 41 → i ≠ 45 → i ≠ 46 → I1 i = I i) ∧ (∀ i, i < h → I1 45 i = I 45 i) ∧ zPs S nd o (zen (zpst S op o) nk o (o - zcnt nd h) r s) I1 := by
  have hnk := N.2.1
  have wle : ∀ (r : Nat → Nat) m, m ≤ 4 → (∀ i, i < m → r i < nk) → zpwt S r m ≤ 396 := fun r m hm hr => by
    have := zsN_le (f := fun i => zwN S (r i)) (p := fun _ => true) (c := 99) m (fun i hi => (zwN_e N O (hr i hi)).2)
    unfold zpwt
    omega
  have cnt4 : ∀ h, h ≤ 4 → zcnt nd h ≤ o := fun h hh => by
    have := zcnt_mono (p := nd) (a := h) (4 - h)
    rw [show h + (4 - h) = 4 by omega, ho] at this
    exact this
  have o4 : o ≤ 4 := by rw [← ho]; exact zcnt_le nd 4
  intro n
  induction n with
  | zero =>
    intro h r s I e F F4 P R hr V
    have eh : h = 4 := by omega
    subst eh
    rw [ho] at *
    have hw := wle r o o4 hr
    rw [t_qp_search, Nat.sub_self]
    show ∃ I1, _ ∧ _ ∧ _ ∧ zPs S nd o (zpst S op o s r) I1
    have t0 : (0 : Int32).toNatClampNeg = 0 := by decide
    have t4 : (4 : Int32).toNatClampNeg = 4 := by decide
    have acc : ∃ I1, (if nI 4 < 0 then (zif (Nat.blt 0 (1 + 2 * (7 - 4))) (zif (zrg 0 4 4) (zif (zrg 0 4 4) (some (none, ((zSC σ), (zrI (zsI I 41 5 (nI (zpwt S r o))) 46 (va_cpy ((zsI I 41 5 (nI (zpwt S r o))) 45) ((zsI I 41 5 (nI (zpwt S r o))) 46) (0 : Int32).toNatClampNeg (0 : Int32).toNatClampNeg (4 : Int32).toNatClampNeg)), J)))))) else (if nI 4 < 4 then none else (zif (Nat.blt 0 (1 + 2 * (7 - 4))) (zif (zrg 0 4 4) (zif (zrg 0 4 4) (some (none, ((zSC σ), (zrI (zsI I 41 5 (nI (zpwt S r o))) 46 (va_cpy ((zsI I 41 5 (nI (zpwt S r o))) 45) ((zsI I 41 5 (nI (zpwt S r o))) 46) (0 : Int32).toNatClampNeg (0 : Int32).toNatClampNeg (4 : Int32).toNatClampNeg)), J)))))))) = some (none, (zSC σ, I1, J)) ∧ (∀ i, i ≠ 41 → i ≠ 45 → i ≠ 46 → I1 i = I i) ∧ (∀ i, i < 4 → I1 45 i = I 45 i) ∧ zPs S nd o (some r) I1 := by
      rw [if_neg (show ¬ nI 4 < 0 by decide), if_neg (show ¬ nI 4 < (4 : Int32) by decide), zif_t (by decide), zif_t zrg4, zif_t zrg4, t0, t4]
      refine ⟨_, rfl, fun i h1 h2 h3 => ?_, fun i hi => ?_, ?_, hw, fun i hi => ?_⟩
      · rw [zrI_ne _ _ h3, zsI_ne _ _ _ h1]
      · rw [zrI_ne _ _ (by decide), zsI_ne _ _ _ (by decide)]
      · rw [zrI_ne _ _ (by decide), zsI_at]
      · rw [zrI_row, zva_in (by omega), zsI_ne _ _ _ (by decide), show 0 + (i - 0) = i by omega, R i hi]
    have rej : ∃ I1, (some (none, (zSC σ, I, J)) : Option zR) = some (none, (zSC σ, I1, J)) ∧ (∀ i, i ≠ 41 → i ≠ 45 → i ≠ 46 → I1 i = I i) ∧ (∀ i, i < 4 → I1 45 i = I 45 i) ∧ zPs S nd o s I1 := ⟨I, rfl, fun _ _ _ _ => rfl, fun _ _ => rfl, P⟩
    rw [if_neg (show ¬ nI 4 < 0 by decide), if_neg (show ¬ nI 4 < (4 : Int32) by decide)] at acc ⊢
    unfold zpst
    rw [if_pos V]
    cases s with
    | none =>
      rw [show I 41 5 = nI 1000000000 from P, if_pos (nI_lt (by omega) (by omega))]
      exact acc
    | some q =>
      obtain ⟨p1, p2, p3⟩ := P
      rw [p1]
      show ∃ I1, _ ∧ _ ∧ _ ∧ zPs S nd o (if zpwt S r o < zpwt S q o then some r else some q) I1
      by_cases hp : zpwt S r o < zpwt S q o
      · rw [if_pos (nI_lt hp (by omega)), if_pos hp]
        exact acc
      · rw [if_neg (fun h => hp ((nI_ltI (by omega) (by omega)).mp h)), if_neg hp]
        exact rej
  | succ n ih =>
    intro h r s I e F F4 P R hr V
    have hh : h < 4 := by omega
    have hc := cnt4 h (by omega)
    have hw := wle r (zcnt nd h) (by omega) hr
    rw [t_qp_search]
    -- too dear
    have prune : (∃ q, s = some q ∧ zpwt S q o ≤ zpwt S r (zcnt nd h)) → zen (zpst S op o) nk o (o - zcnt nd h) r s = s := by
      rintro ⟨q, rfl, hq⟩
      refine zen_id _ _ _ _ _ _ (by omega) (fun r' hr' => ?_)
      have h1 := zpwt_c (S := S) (zcnt nd h) (fun i hi => hr' i (by omega))
      have h2 := zpwt_le (S := S) (r := r') (n := zcnt nd h) (o - zcnt nd h)
      rw [show zcnt nd h + (o - zcnt nd h) = o by omega] at h2
      unfold zpst
      split
      · show (if _ then some r' else some q) = some q
        rw [if_neg (by omega)]
      · rfl
    have enter : nI (zpwt S r (zcnt nd h)) < I 41 5 ∨ ((∃ q, s = some q ∧ zpwt S q o ≤ zpwt S r (zcnt nd h)) ∧ ¬ nI (zpwt S r (zcnt nd h)) < I 41 5) := by
      cases s with
      | none =>
        left
        rw [show I 41 5 = nI 1000000000 from P]
        exact nI_lt (by omega) (by omega)
      | some q =>
        obtain ⟨p1, p2, p3⟩ := P
        rw [p1]
        by_cases hp : zpwt S r (zcnt nd h) < zpwt S q o
        · exact Or.inl (nI_lt hp (by omega))
        · exact Or.inr ⟨⟨q, rfl, by omega⟩, fun h => hp ((nI_ltI (by omega) (by omega)).mp h)⟩
    rcases enter with en | ⟨pr, en⟩
    · rw [if_pos en, if_neg (znn (by omega)), if_pos (show nI h < (4 : Int32) from nI_lt (b := 4) hh (by decide)), zif_n (by omega) (by omega), zif_n (by omega) (by omega), ztnn (by omega), (F h hh).1, nI_1]
      have P1 : zPs S nd o s (zrI I 45 (upd (I 45) h (-1))) := by
        unfold zPs at P ⊢
        cases s with
        | none => simpa only [zrI_ne (b := 41) I _ (show 41 ≠ 45 by decide)] using P
        | some q => simpa only [zrI_ne (b := 41) I _ (show 41 ≠ 45 by decide), zrI_ne (b := 46) I _ (show 46 ≠ 45 by decide)] using P
      by_cases qn : nd h = true
      · -- a hole that wants a book
        have hs : zcnt nd (h + 1) = zcnt nd h + 1 := zcnt_s qn
        have hc1 := cnt4 (h + 1) (by omega)
        rw [if_pos qn, if_neg z10, zsI_zrI]
        obtain ⟨m, hm⟩ : ∃ m, o - zcnt nd h = m + 1 := ⟨o - zcnt nd h - 1, by omega⟩
        have hom : o - (m + 1) = zcnt nd h := by omega
        rw [hm]
        show ∃ I1, _ ∧ _ ∧ _ ∧ zPs S nd o (zfo (fun s k => zen (zpst S op o) nk o m (zup1 r (o - (m + 1)) k) s) 0 nk s) I1
        rw [hom]
        -- the loop over the books
        have loop : ∀ (d k : Nat) (s : Option (Nat → Nat)) (I2 : zTI), k + d = 12 → (∀ i, i ≠ 41 → i ≠ 45 → i ≠ 46 → I2 i = I i) → (∀ i, i < h → I2 45 i = I 45 i) → zPs S nd o s I2 → ∃ I1, qp_search_67 (1 + 2 * (7 - h)) (nI h) (nI (zpwt S r (zcnt nd h))) (zmk r (zcnt nd h)) (nI k) σ I2 J = some (none, (zSC σ, I1, J)) ∧ (∀ i, i ≠ 41 → i ≠ 45 → i ≠ 46 → I1 i = I i) ∧ (∀ i, i < h → I1 45 i = I 45 i) ∧ zPs S nd o (zfo (fun s k => zen (zpst S op o) nk o m (zup1 r (zcnt nd h) k) s) k (nk - k) s) I1 := by
          intro d
          induction d with
          | zero =>
            intro k s I2 ek h1 h2 h3
            rw [t_qp_search_67, if_neg (show ¬ nI k < (12 : Int32) from fun q => by have := (nI_ltI (b := 12) (by omega) (by decide)).mp q; omega), show nk - k = 0 by omega]
            exact ⟨I2, rfl, h1, h2, h3⟩
          | succ d ihd =>
            intro k s I2 ek h1 h2 h3
            have f43 : I2 43 h = zset (fun k => decide (k < nk) && zft S k h) 12 := by
              rw [h1 43 (by decide) (by decide) (by decide)]
              exact (F h hh).2 qn
            have hbit : (I2 43 h &&& (zmk r (zcnt nd h) ^^^ (-1))) &&& ((1 : Int32) <<< (nI k &&& 31)) = 0 ↔ ¬ ((decide (k < nk) && zft S k h) = true ∧ zud r (zcnt nd h) k = false) := by
              rw [f43]
              constructor
              · intro hz hv
                have := congrArg (fun x => bt x k) hz
                simp only [b_and, b_0] at this
                rw [b_zset _ 12 (by omega) k (by omega), b_not (by omega), bt_mk _ k (fun i hi => by have := hr i hi; omega) (by omega), b_shl k (by omega) 1 (by omega), decide_eq_true (show k < 12 by omega), Nat.sub_self, b_one 0 (by omega), hv.1, hv.2] at this
                simp at this
              · intro hv
                apply b_ext
                intro i hi
                rw [b_and, b_and, b_0, b_shl k (by omega) 1 hi]
                by_cases ei : i = k
                · subst ei
                  rw [b_zset _ 12 (by omega) i hi, b_not hi, bt_mk _ i (fun j hj => by have := hr j hj; omega) hi]
                  by_cases q1 : (decide (i < nk) && zft S i h) = true
                  · have q2 : zud r (zcnt nd h) i = true := by
                      cases hz : zud r (zcnt nd h) i with
                      | true => rfl
                      | false => exact absurd ⟨q1, hz⟩ hv
                    rw [q2]
                    simp
                  · rw [Bool.eq_false_iff.mpr q1]
                    simp
                · by_cases l : k ≤ i
                  · rw [b_one _ (by omega), decide_eq_false (show ¬ i - k = 0 by omega), Bool.and_false, Bool.and_false]
                  · rw [decide_eq_false l, Bool.false_and, Bool.and_false]
            rw [t_qp_search_67, if_pos (show nI k < (12 : Int32) from nI_lt (b := 12) (by omega) (by decide)), zif_n (by omega) (by omega), ztnn (by omega), nI_1]
            by_cases hv : (decide (k < nk) && zft S k h) = true ∧ zud r (zcnt nd h) k = false
            · obtain ⟨v1, v2⟩ := hv
              have hk : k < nk := of_decide_eq_true (Bool.and_eq_true_iff.mp v1).1
              have hft : zft S k h = true := (Bool.and_eq_true_iff.mp v1).2
              have f44 : I2 44 k = S (20 + 7 * k + 1) := by
                rw [h1 44 (by decide) (by decide) (by decide)]
                exact F4 k hk
              rw [if_neg (fun q => (hbit.mp q) ⟨v1, v2⟩), zif_n (by omega) (by omega), zif_n (by omega) (by omega), ztnn (by omega), f44, (zwN_e N O hk).1, nI_add, nI_1, a_ps (by omega) (by omega), zsI_zrI]
              have c1 : ∀ i, i < zcnt nd h → zup1 r (zcnt nd h) k i = r i := fun i hi => zup1_no (by omega)
              have ew : zpwt S r (zcnt nd h) + zwN S k = zpwt S (zup1 r (zcnt nd h) k) (zcnt nd (h + 1)) := by
                rw [hs, zpwt_s, zup1_at, zpwt_c _ c1]
              have em : zmk r (zcnt nd h) ||| ((1 : Int32) <<< (nI k &&& 31)) = zmk (zup1 r (zcnt nd h) k) (zcnt nd (h + 1)) := by
                rw [hs]
                show _ = zmk (zup1 r (zcnt nd h) k) (zcnt nd h) ||| ((1 : Int32) <<< (nI (zup1 r (zcnt nd h) k (zcnt nd h)) &&& 31))
                rw [zmk_c _ c1, zup1_at]
              rw [ew, em]
              have P2 : zPs S nd o s (zrI I2 45 (upd (I2 45) h (nI k))) := by
                unfold zPs at h3 ⊢
                cases s with
                | none => simpa only [zrI_ne (b := 41) I2 _ (show 41 ≠ 45 by decide)] using h3
                | some q => simpa only [zrI_ne (b := 41) I2 _ (show 41 ≠ 45 by decide), zrI_ne (b := 46) I2 _ (show 46 ≠ 45 by decide)] using h3
              obtain ⟨I3, g1, g2, g3, g4⟩ := ih (h + 1) (zup1 r (zcnt nd h) k) s (zrI I2 45 (upd (I2 45) h (nI k))) (by omega) (fun i hi => by
                rw [zrI_ne _ _ (by decide), zrI_ne _ _ (by decide), h1 42 (by decide) (by decide) (by decide), h1 43 (by decide) (by decide) (by decide)]
                exact F i hi) (fun k hk => by
                rw [zrI_ne _ _ (by decide), h1 44 (by decide) (by decide) (by decide)]
                exact F4 k hk) P2 (fun i hi => by
                rw [zrI_row]
                by_cases ei : i = h
                · subst ei
                  rw [u_at, if_pos qn, zup1_at]
                · rw [u_no ei, h2 i (by omega), R i (by omega)]
                  by_cases qi : nd i = true
                  · rw [if_pos qi, if_pos qi, zup1_no]
                    have a1 := zcnt_s qi
                    have a2 := zcnt_mono (p := nd) (a := i + 1) (h - (i + 1))
                    rw [show i + 1 + (h - (i + 1)) = h by omega] at a2
                    omega
                  · rw [if_neg qi, if_neg qi]) (fun i hi => by
                rw [hs] at hi
                by_cases ei : i = zcnt nd h
                · subst ei
                  rw [zup1_at]
                  exact hk
                · rw [zup1_no ei]
                  exact hr i (by omega)) (by
                rw [hs]
                show (zvl S op (zup1 r (zcnt nd h) k) (zcnt nd h) && !zud (zup1 r (zcnt nd h) k) (zcnt nd h) (zup1 r (zcnt nd h) k (zcnt nd h)) && zft S (zup1 r (zcnt nd h) k (zcnt nd h)) (op (zcnt nd h))) = true
                rw [zvl_c _ c1, V, zup1_at, zud_c _ _ c1, v2, hop h hh qn, hft]
                rfl)
              rw [g1, zkV_s]
              have eo : o - zcnt nd (h + 1) = m := by omega
              rw [eo] at g4
              obtain ⟨I4, j1, j2, j3, j4⟩ := ihd (k + 1) _ I3 (by omega) (fun i a b c => by rw [g2 i a b c, zrI_ne _ _ b, h1 i a b c]) (fun i hi => by rw [g3 i (by omega), zrI_row, u_no (by omega), h2 i hi]) g4
              refine ⟨I4, j1, j2, j3, ?_⟩
              obtain ⟨e', he'⟩ : ∃ e', nk - k = 1 + e' := ⟨nk - k - 1, by omega⟩
              rw [he', zfo_add]
              rw [show nk - (k + 1) = e' by omega] at j4
              exact j4
            · rw [if_pos (hbit.mpr hv)]
              obtain ⟨I4, j1, j2, j3, j4⟩ := ihd (k + 1) s I2 (by omega) h1 h2 h3
              refine ⟨I4, j1, j2, j3, ?_⟩
              by_cases hk : k < nk
              · obtain ⟨e', he'⟩ : ∃ e', nk - k = 1 + e' := ⟨nk - k - 1, by omega⟩
                rw [he', zfo_add]
                rw [show nk - (k + 1) = e' by omega] at j4
                have ez : zfo (fun s k => zen (zpst S op o) nk o m (zup1 r (zcnt nd h) k) s) k 1 s = s := by
                  show zen (zpst S op o) nk o m (zup1 r (zcnt nd h) (k + 0)) s = s
                  rw [Nat.add_zero]
                  refine zen_id _ _ _ _ _ _ (by omega) (fun r' hr' => ?_)
                  have hb : zvl S op r' (zcnt nd h + 1) = false := by
                    show (zvl S op r' (zcnt nd h) && !zud r' (zcnt nd h) (r' (zcnt nd h)) && zft S (r' (zcnt nd h)) (op (zcnt nd h))) = false
                    rw [hr' (zcnt nd h) (by omega), zup1_at, hop h hh qn, zud_c (r := r) (r' := r') _ _ (fun i hi => by rw [hr' i (by omega), zup1_no (by omega)])]
                    cases hz : zud r (zcnt nd h) k with
                    | true => simp
                    | false =>
                      have : zft S k h = false := by
                        cases hf : zft S k h with
                        | false => rfl
                        | true => exact absurd ⟨by rw [decide_eq_true hk, hf]; rfl, hz⟩ hv
                      rw [this, Bool.and_false]
                  have hb2 := zvl_le (S := S) (op := op) (r := r') (o - (zcnt nd h + 1)) hb
                  rw [show zcnt nd h + 1 + (o - (zcnt nd h + 1)) = o by omega] at hb2
                  unfold zpst
                  rw [if_neg (by rw [hb2]; decide)]
                rw [ez]
                exact j4
              · rw [show nk - k = 0 by omega]
                rw [show nk - (k + 1) = 0 by omega] at j4
                exact j4
        obtain ⟨I1, l1, l2, l3, l4⟩ := loop 12 0 s (zrI I 45 (upd (I 45) h (-1))) (by omega) (fun i a b c => zrI_ne _ _ b) (fun i hi => by rw [zrI_row, u_no (by omega)]) P1
        exact ⟨I1, l1, l2, l3, l4⟩
      · -- no book wanted
        have hs : zcnt nd (h + 1) = zcnt nd h := zcnt_n qn
        rw [if_neg qn, if_pos rfl, a_ps (by omega) (by omega), zsI_zrI, ← hs]
        obtain ⟨I3, g1, g2, g3, g4⟩ := ih (h + 1) r s (zrI I 45 (upd (I 45) h (-1))) (by omega) (fun i hi => by
          rw [zrI_ne _ _ (by decide), zrI_ne _ _ (by decide)]
          exact F i hi) (fun k hk => by
          rw [zrI_ne _ _ (by decide)]
          exact F4 k hk) P1 (fun i hi => by
          rw [zrI_row]
          by_cases ei : i = h
          · subst ei
            rw [u_at, if_neg qn]
          · rw [u_no ei]
            exact R i (by omega)) (fun i hi => hr i (by rw [hs] at hi; exact hi)) (by rw [hs]; exact V)
        rw [g1, zkV_s]
        exact ⟨I3, rfl, fun i a b c => by rw [g2 i a b c, zrI_ne _ _ b], fun i hi => by rw [g3 i (by omega), zrI_row, u_no (by omega)], g4⟩
    · rw [if_neg en, prune pr]
      exact ⟨I, rfl, fun _ _ _ _ => rfl, fun _ _ => rfl, P⟩
