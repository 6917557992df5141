/-! ===== lending: the class's tree ===== -/
theorem a_ds {d r : Nat} {x2 x3 : Int32} {σ : zSg} {I : zTI} {J : zTJ} (hr : r ≤ 6) (hd : 3 + 2 * (7 - r) < d) : zask zG (zS zG) d 23 [.ref 23, .int (nI r), .int x2, .int x3] (zSC σ, I, J) = qd_search (3 + 2 * (7 - r)) (nI r) x2 x3 σ I J := by
  have h1 : zht (zG 23) [.ref 23, .int (nI r), .int x2, .int x3] = 3 + 2 * (7 - r) := by
    show 3 + 2 * (7 - (nI r).toNatClampNeg) = 3 + 2 * (7 - r)
    rw [ztnn (by omega)]
  unfold zask
  rw [h1, show Nat.blt (3 + 2 * (7 - r)) d = true from by rw [Nat.blt_eq]; exact hd]
  rfl
theorem a_pa {d : Nat} {σ : zSg} {I : zTI} {J : zTJ} (h : 2 < d) : zask zG (zS zG) d 24 [.ref 23] (zSC σ, I, J) = qd_passesAll σ I J := by
  have h1 : zht (zG 24) [.ref 23] = 2 := rfl
  unfold zask
  rw [h1, show Nat.blt 2 d = true from by rw [Nat.blt_eq]; exact h]
  rfl
/-- the books of a row: 0 none, k + 1 book k -/
def zuq (d : Nat → Nat) : Nat → Nat → Bool
  | 0, _ => false
  | n + 1, k => zuq d n k || decide (d n = k + 1)
def zmu (d : Nat → Nat) : Nat → Int32
  | 0 => 0
  | n + 1 => if d n = 0 then zmu d n else zmu d n ||| ((1 : Int32) <<< (nI (d n - 1) &&& 31))
theorem bt_mu {d : Nat → Nat} : ∀ n k, (∀ i, i < n → d i ≤ 12) → k < 32 → bt (zmu d n) k = zuq d n k
  | 0, k, _, _ => b_0 k
  | n + 1, k, h, hk => by
    have hr := h n (by omega)
    have ih := bt_mu n k (fun i hi => h i (by omega)) hk
    unfold zmu zuq
    by_cases h0 : d n = 0
    · rw [if_pos h0, ih, decide_eq_false (show ¬ d n = k + 1 by omega), Bool.or_false]
    · rw [if_neg h0, b_or, ih, b_shl (d n - 1) (by omega) 1 hk]
      congr 1
      by_cases e : d n = k + 1
      · rw [decide_eq_true e, decide_eq_true (show d n - 1 ≤ k by omega), b_one _ (by omega), decide_eq_true (show k - (d n - 1) = 0 by omega)]
        rfl
      · rw [decide_eq_false e]
        by_cases l : d n - 1 ≤ k
        · rw [b_one _ (by omega), decide_eq_false (show ¬ k - (d n - 1) = 0 by omega), Bool.and_false]
        · rw [decide_eq_false l, Bool.false_and]
theorem zuq_ex {d : Nat → Nat} {k : Nat} : ∀ n, zuq d n k = true ↔ ∃ j, j < n ∧ d j = k + 1
  | 0 => ⟨fun h => Bool.noConfusion h, fun ⟨j, h, _⟩ => absurd h (by omega)⟩
  | n + 1 => by
    unfold zuq
    rw [Bool.or_eq_true, zuq_ex n, decide_eq_true_eq]
    constructor
    · rintro (⟨j, h1, h2⟩ | h)
      · exact ⟨j, by omega, h2⟩
      · exact ⟨n, by omega, h⟩
    · rintro ⟨j, h1, h2⟩
      by_cases q : j = n
      · subst q
        exact Or.inr h2
      · exact Or.inl ⟨j, by omega, h2⟩
theorem zmu_c {d d' : Nat → Nat} : ∀ n, (∀ i, i < n → d' i = d i) → zmu d' n = zmu d n
  | 0, _ => rfl
  | n + 1, h => by
    have h1 := h n (by omega)
    unfold zmu
    rw [h1, zmu_c n (fun i hi => h i (by omega))]
theorem zsum_dj {f : Nat → Int32} {p q w : Nat → Bool} {L : Int32} : ∀ n, (∀ i, i < n → w i = (p i || q i) ∧ ¬ (p i = true ∧ q i = true)) → zsum (fun i => -(f i)) w L n = zsum (fun i => -(f i)) p L n - zsum f q 0 n
  | 0, _ => by
    show L = L - 0
    exact (Int32.sub_zero L).symm
  | n + 1, h => by
    have ih := zsum_dj (f := f) (L := L) n (fun i hi => h i (by omega))
    obtain ⟨h1, h2⟩ := h n (by omega)
    by_cases hp : p n = true
    · have hq : ¬ q n = true := fun e => h2 ⟨hp, e⟩
      rw [zsum_t (show w n = true by rw [h1, hp]; rfl), zsum_t hp, zsum_z hq, ih]
      grind
    · by_cases hq : q n = true
      · rw [zsum_t (show w n = true by rw [h1, hq, Bool.or_true]), zsum_z hp, zsum_t hq, ih]
        grind
      · rw [zsum_z (show ¬ w n = true by rw [h1, Bool.eq_false_iff.mpr hp, Bool.eq_false_iff.mpr hq]; decide), zsum_z hp, zsum_z hq, ih]
/-- what is lent at a stop -/
def zLs (S : Nat → Int32) (nr : Nat) (f : Nat → Int32) (d : Nat → Nat) (s : Nat) : Int32 := zsum (fun j => f (d j - 1)) (fun j => !decide (d j = 0) && decide (zhm S j = s)) 0 nr
def zDF (C S : Nat → Int32) (dy : Nat) (e : Int32) (nk ns nr b a sp : Nat) (x : Int32) (am : Nat → Nat) (I : zTI) : Prop := (I 23 11 = nI a ∧ I 23 12 = nI sp ∧ I 23 13 = zload S nk b (zset (zab S b) nk) ∧ I 23 14 = ztilt S nk b (zset (zab S b) nk) ∧ I 23 15 = S (6 + 7 * b + 2) ∧ I 23 16 = S (6 + 7 * b + 3)) ∧ (∀ s, s < ns → I 29 s = zde C dy s + e) ∧ (∀ k, k < nk → zab S b k = true → I 27 k = zhv S k ∧ I 28 k = ztl S b k) ∧ (∀ r k, r < 6 → k < 12 → I 24 (12 * r + k) = if r < nr ∧ k < nk ∧ (zas S a sp x r && zab S b k) = true then nI (zwi S r k) else 0) ∧ (∀ r, r ≤ 6 → I 25 r = nI (am r)) ∧ (∀ r, r < nr → I 26 r = nI (zhm S r))
/-- the least upper sums -/
def zAM (S : Nat → Int32) (nk nr b a sp : Nat) (x : Int32) (am : Nat → Nat) : Prop := am 6 = 0 ∧ (∀ r, r < 6 → am (r + 1) ≤ am r ∧ am r ≤ am (r + 1) + 99) ∧ (∀ r k, r < nr → k < nk → zcl S b a sp x r k = true → zwi S r k + am (r + 1) ≤ am r) ∧ (∀ r, r < 6 → am (r + 1) < am r → r < nr)
/-- the best so far -/
def zDs (S : Nat → Int32) (nr : Nat) (s : Option (Nat → Nat)) (I : zTI) : Prop := match s with
  | none => I 23 10 = -1
  | some q => I 23 10 = nI (zcoi S nr q) ∧ zcoi S nr q ≤ 594 ∧ (∀ r, nr ≤ r → q r = 0) ∧ ∀ r, r < 6 → I 33 r = nI (q r) - 1
theorem p_passAll {C S : Nat → Int32} {dy nk ns nr nh nb b a sp : Nat} {e x : Int32} {am d : Nat → Nat} {σ : zSg} {I : zTI} {J : zTJ} (G : zGood nb nk ns nr nh C S) (hb : b < nb) (hsp : sp < ns) (F : zDF C S dy e nk ns nr b a sp x am I) (A : zadm S nk nr b a sp x d) (h30 : ∀ s, s < 8 → I 30 s = zLs S nr (zhv S) d s ∧ I 31 s = zLs S nr (ztl S b) d s) : ∀ m s, s + m = sp → a ≤ s → qd_passesAll_19 (zsum (fun r => -(zhv S (d r - 1))) (fun r => !decide (d r = 0) && decide (zhm S r < s)) (zload S nk b (zset (zab S b) nk)) nr) (zsum (fun r => -(ztl S b (d r - 1))) (fun r => !decide (d r = 0) && decide (zhm S r < s)) (ztilt S nk b (zset (zab S b) nk)) nr) (nI s) σ I J = some (some (.int (if ∀ s', s' < sp → s ≤ s' → zpas C S dy e nk nr b d s' then 1 else 0)), (zSC σ, I, J)) := by
  have n2 := G.1.ns.2.2.1
  obtain ⟨⟨f11, f12, f13, f14, f15, f16⟩, f29, -⟩ := F
  obtain ⟨g2, g3⟩ := G.wb.1 b hb
  intro m
  induction m with
  | zero =>
    intro s es ha
    rw [t_qd_passesAll_19, f12, if_neg (fun q => by have := (nI_ltI (by omega) (by omega)).mp q; omega), if_pos (fun s' h1 h2 => absurd h1 (by omega))]
  | succ m ih =>
    intro s es ha
    have dj : ∀ (f : Nat → Int32) (L : Int32), zsum (fun r => -(f (d r - 1))) (fun r => !decide (d r = 0) && decide (zhm S r < s)) L nr - zLs S nr f d s = zsum (fun r => -(f (d r - 1))) (fun r => !decide (d r = 0) && decide (zhm S r < s + 1)) L nr := fun f L => by
      unfold zLs
      exact (zsum_dj (f := fun r => f (d r - 1)) nr (fun i hi => by
        by_cases h0 : d i = 0
        · rw [decide_eq_true h0]; simp
        · rw [decide_eq_false h0]
          by_cases q : zhm S i < s
          · rw [decide_eq_true q, decide_eq_true (show zhm S i < s + 1 by omega), decide_eq_false (show ¬ zhm S i = s by omega)]
            simp
          · by_cases q2 : zhm S i = s
            · rw [decide_eq_false q, decide_eq_true q2, decide_eq_true (show zhm S i < s + 1 by omega)]
              simp
            · rw [decide_eq_false q, decide_eq_false q2, decide_eq_false (show ¬ zhm S i < s + 1 by omega)]
              simp)).symm
    have le : ∀ (f : Nat → Int32) (L : Int32), zsum (fun r => -(f (d r - 1))) (fun r => !decide (d r = 0) && decide (zhm S r < s + 1)) L nr = zsum (fun r => -(f (d r - 1))) (fun r => !decide (d r = 0) && decide (zhm S r ≤ s)) L nr := fun f L => zsum_congr nr (fun i hi => ⟨by
      congr 1
      by_cases q : zhm S i ≤ s
      · rw [decide_eq_true q, decide_eq_true (show zhm S i < s + 1 by omega)]
      · rw [decide_eq_false q, decide_eq_false (show ¬ zhm S i < s + 1 by omega)], fun _ => rfl⟩)
    rw [t_qd_passesAll_19, f12, if_pos (nI_lt (by omega) (by omega)), nI_1, if_pos (show nI (s + 1) < (8 : Int32) from nI_lt (b := 8) (by omega) (by decide)), zif_n (by omega) (by omega), zif_n (by omega) (by omega), ztnn (by omega), (h30 s (by omega)).1, (h30 s (by omega)).2, dj, dj, f15, f16, p_draughtByW w2 g2 g3, zkI_s, zif_n (by omega) (by omega), ztnn (by omega), f29 (s + 1) (by omega)]
    by_cases q : zpas C S dy e nk nr b d s
    · have q' : ¬ zde C dy (s + 1) + e < zdr (zsum (fun r => -(zhv S (d r - 1))) (fun r => !decide (d r = 0) && decide (zhm S r < s + 1)) (zload S nk b (zset (zab S b) nk)) nr) (zsum (fun r => -(ztl S b (d r - 1))) (fun r => !decide (d r = 0) && decide (zhm S r < s + 1)) (ztilt S nk b (zset (zab S b) nk)) nr) (S (6 + 7 * b + 2)) (S (6 + 7 * b + 3)) := by
        rw [le, le]
        exact q
      rw [if_neg q', ih (s + 1) (by omega) (by omega)]
      have iff : (∀ s', s' < sp → s + 1 ≤ s' → zpas C S dy e nk nr b d s') ↔ (∀ s', s' < sp → s ≤ s' → zpas C S dy e nk nr b d s') := by
        constructor
        · intro h s' h1 h2
          by_cases e' : s' = s
          · subst e'
            exact q
          · exact h s' h1 (by omega)
        · intro h s' h1 h2
          exact h s' h1 (by omega)
      simp only [iff]
    · have q' : zde C dy (s + 1) + e < zdr (zsum (fun r => -(zhv S (d r - 1))) (fun r => !decide (d r = 0) && decide (zhm S r < s + 1)) (zload S nk b (zset (zab S b) nk)) nr) (zsum (fun r => -(ztl S b (d r - 1))) (fun r => !decide (d r = 0) && decide (zhm S r < s + 1)) (ztilt S nk b (zset (zab S b) nk)) nr) (S (6 + 7 * b + 2)) (S (6 + 7 * b + 3)) := by
        rw [le, le]
        by_cases l : zde C dy (s + 1) + e < zdr (zLd S nk nr b d s) (zTd S nk nr b d s) (S (6 + 7 * b + 2)) (S (6 + 7 * b + 3))
        · exact l
        · exact absurd l q
      rw [if_pos q', if_neg (fun h => q (h s (by omega) (Nat.le_refl s)))]
theorem p_passesAll {C S : Nat → Int32} {dy nk ns nr nh nb b a sp : Nat} {e x : Int32} {am d : Nat → Nat} {σ : zSg} {I : zTI} {J : zTJ} (G : zGood nb nk ns nr nh C S) (hb : b < nb) (has : a ≤ sp) (hsp : sp < ns) (F : zDF C S dy e nk ns nr b a sp x am I) (A : zadm S nk nr b a sp x d) (h30 : ∀ s, s < 8 → I 30 s = zLs S nr (zhv S) d s ∧ I 31 s = zLs S nr (ztl S b) d s) : qd_passesAll σ I J = some (some (.int (if ∀ s', s' < sp → a ≤ s' → zpas C S dy e nk nr b d s' then 1 else 0)), (zSC σ, I, J)) := by
  have n2 := G.1.ns.2.2.1
  have no : ∀ (f : Nat → Int32) (L : Int32), zsum (fun r => -(f (d r - 1))) (fun r => !decide (d r = 0) && decide (zhm S r < a)) L nr = L := fun f L => zsum_none nr (fun i hi => by
    by_cases h0 : d i = 0
    · rw [decide_eq_true h0]; rfl
    · have := (zbk A hi h0).2.2.1
      rw [decide_eq_false (show ¬ zhm S i < a by omega), Bool.and_false])
  have := p_passAll (σ := σ) (J := J) G hb hsp F A h30 (sp - a) a (by omega) (Nat.le_refl a)
  rw [no, no] at this
  obtain ⟨⟨f11, f12, f13, f14, f15, f16⟩, -⟩ := id F
  rw [t_qd_passesAll, f11, f13, f14, if_neg (znn (by omega))]
  exact this
