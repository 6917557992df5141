/-! ===== words, in both ===== -/
theorem p_among {w c : Nat} (hw : zsn w c) {σ : zSg} {I : zTI} {J : zTJ} {t p x1 : Nat} {B : Nat → Nat} {M : Nat → Int32} {ws : List (List Int32)} (T : zTxt t B (I c) M) (e1 : I w 1 = nI t) (e2 : I w 2 = nI p) (hp : p ≤ t) (hx : x1 < 7) (hL : (zSb.getD x1 []).length < 1000) (hn : ws ≠ []) (hj : zSb.getD x1 [] = zjw ws) (h32 : ∀ l, l ∈ ws → ∀ a, a ∈ l → a ≠ 32) : qn_wordAmong w x1 σ I J = some (some (.int (if p < zru (zlr B) t p then zam (I c) p (zru (zlr B) t p) ws 0 else -1)), (zSC σ, I, J)) := by
  have ht := T.1
  have hq := zru_le (P := zlr B) (t := t) p hp
  rw [t_qn_wordAmong w _ c hw, t_qn_wordEnd w c hw, e2, p_wEnd hw T e1 p (by omega), zkI_s, e2]
  by_cases g : p < zru (zlr B) t p
  · rw [if_pos g]
    exact p_wW hw hx e2 g (by omega) hL ws 0 0 hn hj (by omega) h32
  · have hge := zru_ge (P := zlr B) (t := t) p
    rw [if_neg g, t_qn_wordAmong_16 w _ _ _ _ _ c hw, zif_t (show Nat.blt x1 7 = true from Nat.blt_eq.mpr hx), if_neg (show ¬ Int32.ofNat (zsl x1) < 0 from znn (show zsl x1 < 2 ^ 31 from Nat.lt_of_lt_of_le hL (by omega))), e2, if_neg (fun h => g ((nI_ltI (by omega) (by omega)).mp h))]
/-- letters put together -/
def zpk (B : Nat → Nat) (p : Nat) : Nat → Nat
  | 0 => 0
  | n + 1 => 256 * zpk B p n + B (p + n)
theorem zpk_lt {B : Nat → Nat} {p : Nat} : ∀ n, (∀ i, i < n → B (p + i) < 256) → zpk B p n < 256 ^ n
  | 0, _ => by show 0 < 1; omega
  | n + 1, h => by
    have h1 := zpk_lt n (fun i hi => h i (by omega))
    have h2 := h n (by omega)
    show 256 * zpk B p n + B (p + n) < 256 ^ (n + 1)
    rw [Nat.pow_succ]
    omega
theorem zn6_or {a b : Nat} (ha : a < 2 ^ 55) (hb : b < 256) : (zn6 a <<< ((8 : Int32).toInt64 &&& 63)) ||| zn6 b = zn6 (256 * a + b) := by
  have e8 : ((8 : Int32).toInt64 &&& 63) = 8 := by decide
  rw [e8]
  apply Int64.toBitVec_inj.mp
  rw [Int64.toBitVec_or, Int64.toBitVec_shiftLeft]
  apply BitVec.eq_of_toNat_eq
  have t : ∀ m, m < 2 ^ 64 → (zn6 m).toBitVec.toNat = m := fun m hm => by
    show (BitVec.ofNat 64 m).toNat = m
    rw [BitVec.toNat_ofNat, Nat.mod_eq_of_lt hm]
  have e9 : ((8 : Int64).toBitVec.smod 64).toNat = 8 := by decide
  rw [BitVec.toNat_or, t b (by omega), t _ (by omega), BitVec.shiftLeft_eq', BitVec.toNat_shiftLeft, e9, t a (by omega), Nat.shiftLeft_eq, Nat.mod_eq_of_lt (by omega)]
  have := Nat.shiftLeft_add_eq_or_of_lt (i := 8) (b := b) (by omega) a
  rw [Nat.shiftLeft_eq] at this
  rw [← this]
  omega
theorem zcmp_eq {x y : Int64} : lg_cmp x y = 0 ↔ x = y := by
  unfold lg_cmp
  by_cases h1 : x > y
  · rw [if_pos h1]
    exact ⟨fun h => absurd h (by decide), fun h => by subst h; exact absurd (Int64.lt_iff_toInt_lt.mp h1) (by omega)⟩
  · rw [if_neg h1]
    by_cases h2 : x = y
    · rw [if_pos h2]
      exact ⟨fun _ => h2, fun _ => rfl⟩
    · rw [if_neg h2]
      exact ⟨fun h => absurd h (by decide), fun h => absurd h h2⟩
set_option maxHeartbeats 4000000 in
theorem p_isWL {J : zTJ} {t p : Nat} {B : Nat → Nat} {C : Nat → Int32} {I : zTI} {X : Int64} (T : zTxt t B C (I 1)) (e1 : I 0 1 = nI t) (e9 : I 0 9 = nI p) (hp : p ≤ t) : ∀ q, p ≤ q → q ≤ t → (∀ i, p ≤ i → i < q → zlr B i = true) → ∀ V : Int64, (q - p ≤ 7 → V = zn6 (zpk B p (q - p))) → qm_isWord_10 X V (nI (q - p)) I J = some (some (.int (if 0 < zru (zlr B) t q - p ∧ zru (zlr B) t q - p < 8 ∧ zn6 (zpk B p (zru (zlr B) t q - p)) = X then 1 else 0)), (zSM, I, J)) := by
  have ht := T.1
  refine zru_ind (P := zlr B) (t := t) (fun q h hq hqt hall V hV => ?_) (fun q h hP ih hq hqt hall V hV => ?_)
  · have ea : nI p + nI (q - p) = nI q := by rw [show nI p + nI (q - p) = nI (p + (q - p)) from nI_add _ _, show p + (q - p) = q by omega]
    rw [t_qm_isWord_10, e9, ea, p_isLet T e1 (by omega), zkI_s, if_neg (show ¬ zhr (zlr B) t q from h), if_pos rfl, zru_n h]
    by_cases g0 : 0 < q - p
    · rw [if_pos (show (0 : Int32) < nI (q - p) from nI_lt (a := 0) g0 (by omega))]
      by_cases g8 : q - p < 8
      · rw [if_pos (show nI (q - p) < (8 : Int32) from nI_lt (b := 8) g8 (by omega)), hV (by omega)]
        by_cases gx : zn6 (zpk B p (q - p)) = X
        · rw [if_pos (show 0 < q - p ∧ q - p < 8 ∧ zn6 (zpk B p (q - p)) = X from ⟨g0, g8, gx⟩), if_pos (zcmp_eq.mpr gx)]
        · rw [if_neg (show ¬ (0 < q - p ∧ q - p < 8 ∧ zn6 (zpk B p (q - p)) = X) from fun h => gx h.2.2), if_neg (fun h => gx (zcmp_eq.mp h))]
      · rw [if_neg (show ¬ nI (q - p) < (8 : Int32) from fun h => g8 ((nI_ltI (b := 8) (by omega) (by omega)).mp h)), if_neg (show ¬ (0 < q - p ∧ q - p < 8 ∧ zn6 (zpk B p (q - p)) = X) from fun h => g8 h.2.1)]
    · rw [if_neg (show ¬ (0 : Int32) < nI (q - p) from fun h => g0 ((nI_ltI (a := 0) (by omega) (by omega)).mp h)), if_neg (show ¬ (0 < q - p ∧ q - p < 8 ∧ zn6 (zpk B p (q - p)) = X) from fun h => g0 h.1)]
  · have ea : nI p + nI (q - p) = nI q := by rw [show nI p + nI (q - p) = nI (p + (q - p)) from nI_add _ _, show p + (q - p) = q by omega]
    have g := of_decide_eq_true hP
    have hall' : ∀ i, p ≤ i → i < q + 1 → zlr B i = true := fun i h1 h2 => by
      by_cases e : i = q
      · subst e; exact hP
      · exact hall i h1 (by omega)
    have ih' := ih (by omega) (by omega) hall'
    rw [t_qm_isWord_10, e9, ea, p_isLet T e1 (by omega), zkI_s, if_pos (show zhr (zlr B) t q from ⟨h, hP⟩), if_neg z10, e9, ea, nI_1, show q - p + 1 = q + 1 - p by omega, zru_y h hP]
    by_cases g8 : q - p < 8
    · have hM : I 1 q = nI (B q) := by
        apply Int32.toInt_inj.mp
        rw [(T.2 q h).2.2, nI_toInt (by omega), if_pos (by omega)]
      rw [if_pos (show nI (q - p) < (8 : Int32) from nI_lt (b := 8) g8 (by omega)), zif_n (by omega) (by omega), ztnn (by omega), hM, zn6_nI (by omega)]
      refine ih' _ (fun h7 => ?_)
      have hl := zpk_lt (B := B) (p := p) (q - p) (fun i hi => by
        have := of_decide_eq_true (hall (p + i) (by omega) (by omega))
        omega)
      have hpw : 256 ^ (q - p) ≤ 256 ^ 6 := Nat.pow_le_pow_right (by omega) (by omega)
      rw [hV (by omega), zn6_or (by omega) (by omega), show q + 1 - p = (q - p) + 1 by omega]
      show _ = zn6 (256 * zpk B p (q - p) + B (p + (q - p)))
      rw [show p + (q - p) = q by omega]
    · rw [if_neg (show ¬ nI (q - p) < (8 : Int32) from fun h' => g8 ((nI_ltI (b := 8) (by omega) (by omega)).mp h'))]
      exact ih' _ (fun h7 => by omega)
/-- a word by its letters -/
def zpq : List Nat → Nat
  | [] => 0
  | a :: l => a + 256 * zpq l
theorem zpq_inj : ∀ (l m : List Nat), (∀ a, a ∈ l → 0 < a ∧ a < 256) → (∀ a, a ∈ m → 0 < a ∧ a < 256) → zpq l = zpq m → l = m
  | [], [], _, _, _ => rfl
  | [], b :: m, _, hm, h => by
    have := hm b (List.mem_cons_self)
    have e : zpq [] = 0 := rfl
    have e' : zpq (b :: m) = b + 256 * zpq m := rfl
    omega
  | a :: l, [], hl, _, h => by
    have := hl a (List.mem_cons_self)
    have e : zpq [] = 0 := rfl
    have e' : zpq (a :: l) = a + 256 * zpq l := rfl
    omega
  | a :: l, b :: m, hl, hm, h => by
    have h1 := hl a (List.mem_cons_self)
    have h2 := hm b (List.mem_cons_self)
    have e : zpq (a :: l) = a + 256 * zpq l := rfl
    have e' : zpq (b :: m) = b + 256 * zpq m := rfl
    have h3 : a = b := by omega
    have h4 : zpq l = zpq m := by omega
    rw [h3, zpq_inj l m (fun x hx => hl x (List.mem_cons_of_mem _ hx)) (fun x hx => hm x (List.mem_cons_of_mem _ hx)) h4]
/-- the letters from p on, the last first -/
def zlb (B : Nat → Nat) (p : Nat) : Nat → List Nat
  | 0 => []
  | n + 1 => B (p + n) :: zlb B p n
theorem zlb_pk {B : Nat → Nat} {p : Nat} : ∀ n, zpq (zlb B p n) = zpk B p n
  | 0 => rfl
  | n + 1 => by
    show B (p + n) + 256 * zpq (zlb B p n) = 256 * zpk B p n + B (p + n)
    rw [zlb_pk n]
    omega
theorem zlb_mem {B : Nat → Nat} {p : Nat} {P : Nat → Prop} : ∀ n, (∀ i, i < n → P (B (p + i))) → ∀ a, a ∈ zlb B p n → P a
  | 0, _, a, h => by cases h
  | n + 1, h, a, ha => by
    rcases List.mem_cons.mp ha with rfl | h'
    · exact h n (by omega)
    · exact zlb_mem n (fun i hi => h i (by omega)) a h'
theorem zlb_len {B : Nat → Nat} {p : Nat} : ∀ n, (zlb B p n).length = n
  | 0 => rfl
  | n + 1 => by
    show (zlb B p n).length + 1 = n + 1
    rw [zlb_len n]
