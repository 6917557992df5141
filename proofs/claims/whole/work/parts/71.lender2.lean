/-! ===== lending: the class's search ===== -/
theorem zsN_flip2 {f g : Nat → Nat} {p q : Nat → Bool} {k : Nat} (hp : p k = false) (hq : q k = true) (h : ∀ i, i ≠ k → p i = q i ∧ (p i = true → f i = g i)) : ∀ n, k < n → zsN g q n = zsN f p n + g k := by
  intro n hk
  rw [zsN_flip hp hq (fun i hi => (h i hi).1) n hk]
  congr 1
  have : ∀ n, zsN g p n = zsN f p n := by
    intro n
    induction n with
    | zero => rfl
    | succ n ih =>
      unfold zsN
      rw [ih]
      by_cases e : p n = true
      · rw [if_pos e, if_pos e, (h n (fun e' => by subst e'; rw [hp] at e; cases e)).2 e]
      · rw [if_neg e, if_neg e]
  exact this n
theorem zcoi_up {S : Nat → Int32} {nr r k : Nat} {d : Nat → Nat} (h0 : d r = 0) (hr : r < nr) : zcoi S nr (zup1 d r (k + 1)) = zcoi S nr d + zwi S r k := by
  unfold zcoi
  rw [zsN_flip2 (f := fun r => zwi S r (d r - 1)) (p := fun r => !decide (d r = 0)) (k := r) (by rw [h0]; rfl) (by rw [zup1_at]; simp) (fun i hi => by
    rw [zup1_no hi]
    exact ⟨rfl, fun _ => rfl⟩) nr hr, zup1_at, Nat.add_sub_cancel]
theorem zLs_up {S : Nat → Int32} {nr r k s : Nat} {f : Nat → Int32} {d : Nat → Nat} (h0 : d r = 0) (hr : r < nr) : zLs S nr f (zup1 d r (k + 1)) s = if s = zhm S r then zLs S nr f d s + f k else zLs S nr f d s := by
  unfold zLs
  by_cases q : s = zhm S r
  · rw [if_pos q]
    have h1 := zsum_flip (f := fun j => f (zup1 d r (k + 1) j - 1)) (p := fun j => !decide (d j = 0) && decide (zhm S j = s)) (q := fun j => !decide (zup1 d r (k + 1) j = 0) && decide (zhm S j = s)) (a := 0) (k := r) (by rw [h0]; rfl) (by rw [zup1_at, q]; simp) (fun i hi => by rw [zup1_no hi]) nr hr
    rw [h1, zup1_at, Nat.add_sub_cancel]
    congr 1
    exact zsum_congr nr (fun i hi => ⟨rfl, fun hp => by
      by_cases e : i = r
      · subst e
        rw [h0] at hp
        simp at hp
      · rw [zup1_no e]⟩)
  · rw [if_neg q]
    exact zsum_congr nr (fun i hi => by
      by_cases e : i = r
      · subst e
        rw [decide_eq_false (show ¬ zhm S i = s from fun h => q h.symm), Bool.and_false, Bool.and_false]
        exact ⟨rfl, fun h => by cases h⟩
      · rw [zup1_no e]
        exact ⟨rfl, fun _ => rfl⟩)
theorem z_upper {S : Nat → Int32} {nk nr b a sp : Nat} {x : Int32} {am d : Nat → Nat} (M : zAM S nk nr b a sp x am) (hn : nr ≤ 6) (A : zadm S nk nr b a sp x d) : ∀ m r, r + m = 6 → zcoi S nr d ≤ zsN (fun r => zwi S r (d r - 1)) (fun j => !decide (d j = 0) && decide (j < r)) nr + am r := by
  obtain ⟨m0, m1, m2, m3⟩ := M
  intro m
  induction m with
  | zero =>
    intro r e
    have : zcoi S nr d = zsN (fun r => zwi S r (d r - 1)) (fun j => !decide (d j = 0) && decide (j < r)) nr := zsN_congr nr (fun i hi => by rw [decide_eq_true (show i < r by omega), Bool.and_true])
    omega
  | succ m ih =>
    intro r e
    have h1 := ih (r + 1) (by omega)
    have h2 := (m1 r (by omega)).1
    have same : ∀ i, i ≠ r → (!decide (d i = 0) && decide (i < r)) = (!decide (d i = 0) && decide (i < r + 1)) := fun i hi => by
      congr 1
      by_cases l : i < r
      · rw [decide_eq_true l, decide_eq_true (show i < r + 1 by omega)]
      · rw [decide_eq_false l, decide_eq_false (show ¬ i < r + 1 by omega)]
    by_cases hr : r < nr
    · by_cases h0 : d r = 0
      · have : zsN (fun r => zwi S r (d r - 1)) (fun j => !decide (d j = 0) && decide (j < r + 1)) nr = zsN (fun r => zwi S r (d r - 1)) (fun j => !decide (d j = 0) && decide (j < r)) nr := zsN_congr nr (fun i hi => by
          by_cases e' : i = r
          · subst e'
            rw [h0]; rfl
          · exact (same i e').symm)
        omega
      · have h3 := zsN_flip (f := fun r => zwi S r (d r - 1)) (p := fun j => !decide (d j = 0) && decide (j < r)) (q := fun j => !decide (d j = 0) && decide (j < r + 1)) (k := r) (by rw [decide_eq_false (show ¬ r < r by omega), Bool.and_false]) (by rw [decide_eq_false h0, decide_eq_true (show r < r + 1 by omega)]; rfl) same nr hr
        rcases A r hr with h | ⟨h4, h5⟩
        · exact absurd h h0
        · have := m2 r (d r - 1) hr (by omega) h5
          omega
    · have : zsN (fun r => zwi S r (d r - 1)) (fun j => !decide (d j = 0) && decide (j < r + 1)) nr = zsN (fun r => zwi S r (d r - 1)) (fun j => !decide (d j = 0) && decide (j < r)) nr := zsN_congr nr (fun i hi => (same i (by omega)).symm)
      omega
theorem zrg6 : zrg 0 6 6 = true := by decide
/-- the class's facts stay where only some rows change -/
theorem zDF_c {C S : Nat → Int32} {dy : Nat} {e : Int32} {nk ns nr b a sp : Nat} {x : Int32} {am : Nat → Nat} {I I1 : zTI} (F : zDF C S dy e nk ns nr b a sp x am I) (h : ∀ i, i = 24 ∨ i = 25 ∨ i = 26 ∨ i = 27 ∨ i = 28 ∨ i = 29 → I1 i = I i) (h23 : ∀ k, k ≠ 10 → I1 23 k = I 23 k) : zDF C S dy e nk ns nr b a sp x am I1 := by
  unfold zDF
  rw [h 24 (by omega), h 25 (by omega), h 26 (by omega), h 27 (by omega), h 28 (by omega), h 29 (by omega), h23 11 (by omega), h23 12 (by omega), h23 13 (by omega), h23 14 (by omega), h23 15 (by omega), h23 16 (by omega)]
  exact F
set_option maxHeartbeats 8000000 in
theorem p_dsearch {C S : Nat → Int32} {dy nk ns nr nh nb b a sp : Nat} {e x : Int32} {am : Nat → Nat} {σ : zSg} {J : zTJ} (G : zGood nb nk ns nr nh C S) (hb : b < nb) (has : a ≤ sp) (hsp : sp < ns) (M : zAM S nk nr b a sp x am) :
    ∀ (n r : Nat) (d : Nat → Nat) (s : Option (Nat → Nat)) (I : zTI), r + n = 6 → zDF C S dy e nk ns nr b a sp x am I → zadm S nk nr b a sp x d → zNdu nr d → (∀ j, r ≤ j → d j = 0) → (∀ j, nr ≤ j → d j = 0) → (∀ s, s < 8 → I 30 s = zLs S nr (zhv S) d s ∧ I 31 s = zLs S nr (ztl S b) d s) → (∀ j, j < 6 → I 32 j = nI (d j) - 1) → zDs S nr s I →
      ∃ I1, qd_search (3 + 2 * (7 - r)) (nI r) (nI (zcoi S nr d)) (zmu d r) σ I J = some (none, (zSC σ, I1, J)) ∧ (∀ i, i ≠ 23 → i ≠ 30 → i ≠ 31 → i ≠ 32 → i ≠ 33 → I1 i = I i) ∧ (∀ k, k ≠ 10 → I1 23 k = I 23 k) ∧ (∀ s, s < 8 → I1 30 s = I 30 s ∧ I1 31 s = I 31 s) ∧ (∀ j, j < 6 → I1 32 j = I 32 j) ∧ zDs S nr (zen (zls_ C S dy e nk nr b a sp x) (nk + 1) nr (nr - r) d s) I1 := by
  obtain ⟨⟨n0, n1, n2, n3, n4⟩, -⟩ := id G.1
  have N := G.1.ns
  have O := G.2.1
  obtain ⟨m0, m1, m2, m3⟩ := id M
  have amb : ∀ m r, r + m = 6 → am r ≤ 99 * m := by
    intro m
    induction m with
    | zero => intro r e; rw [show r = 6 by omega, m0]; omega
    | succ m ih =>
      intro r e
      have := ih (r + 1) (by omega)
      have := (m1 r (by omega)).2
      omega
  intro n
  induction n with
  | zero =>
    intro r d s I er F A D hz hzn h30 h32 P
    have er' : r = 6 := by omega
    subst er'
    have hw := zcoi_le N O A
    rw [t_qd_search, if_neg (show ¬ nI 6 < 0 by decide), if_neg (show ¬ nI 6 < (6 : Int32) by decide), a_pa (by omega), p_passesAll G hb has hsp F A h30, zkI_s, show nr - 6 = 0 by omega]
    show ∃ I1, _ ∧ _ ∧ _ ∧ _ ∧ _ ∧ zDs S nr (zls_ C S dy e nk nr b a sp x s d) I1
    have t0 : (0 : Int32).toNatClampNeg = 0 := by decide
    have t6 : (6 : Int32).toNatClampNeg = 6 := by decide
    have rej : ∃ I1, (some (none, (zSC σ, I, J)) : Option zR) = some (none, (zSC σ, I1, J)) ∧ (∀ i, i ≠ 23 → i ≠ 30 → i ≠ 31 → i ≠ 32 → i ≠ 33 → I1 i = I i) ∧ (∀ k, k ≠ 10 → I1 23 k = I 23 k) ∧ (∀ s, s < 8 → I1 30 s = I 30 s ∧ I1 31 s = I 31 s) ∧ (∀ j, j < 6 → I1 32 j = I 32 j) ∧ zDs S nr s I1 := ⟨I, rfl, fun _ _ _ _ _ _ => rfl, fun _ _ => rfl, fun _ _ => ⟨rfl, rfl⟩, fun _ _ => rfl, P⟩
    have acc : ∃ I1, (zif (Nat.blt 0 (3 + 2 * (7 - 6))) (zif (zrg 0 6 6) (zif (zrg 0 6 6) (some (none, ((zSC σ), (zrI (zsI I 23 10 (nI (zcoi S nr d))) 33 (va_cpy ((zsI I 23 10 (nI (zcoi S nr d))) 32) ((zsI I 23 10 (nI (zcoi S nr d))) 33) (0 : Int32).toNatClampNeg (0 : Int32).toNatClampNeg (6 : Int32).toNatClampNeg)), J)))))) = some (none, (zSC σ, I1, J)) ∧ (∀ i, i ≠ 23 → i ≠ 30 → i ≠ 31 → i ≠ 32 → i ≠ 33 → I1 i = I i) ∧ (∀ k, k ≠ 10 → I1 23 k = I 23 k) ∧ (∀ s, s < 8 → I1 30 s = I 30 s ∧ I1 31 s = I 31 s) ∧ (∀ j, j < 6 → I1 32 j = I 32 j) ∧ zDs S nr (some d) I1 := by
      rw [zif_t (by decide), zif_t zrg6, zif_t zrg6, t0, t6]
      refine ⟨_, rfl, fun i h1 h2 h3 h4 h5 => ?_, fun k hk => ?_, fun s hs => ?_, fun j hj => ?_, ?_, hw, hzn, fun i hi => ?_⟩
      · rw [zrI_ne _ _ h5, zsI_ne _ _ _ h1]
      · rw [zrI_ne _ _ (by decide), zsI_no _ _ _ hk]
      · rw [zrI_ne _ _ (by decide), zsI_ne _ _ _ (by decide), zrI_ne _ _ (by decide), zsI_ne _ _ _ (by decide)]
        exact ⟨rfl, rfl⟩
      · rw [zrI_ne _ _ (by decide), zsI_ne _ _ _ (by decide)]
      · rw [zrI_ne _ _ (by decide), zsI_at]
      · rw [zrI_row, zva_in (by omega), zsI_ne _ _ _ (by decide), show 0 + (i - 0) = i by omega, h32 i hi]
    unfold zls_
    by_cases pa : ∀ s', s' < sp → a ≤ s' → zpas C S dy e nk nr b d s'
    · rw [if_pos pa, if_neg z10, if_pos (show zadm S nk nr b a sp x d ∧ zlok C S dy e nk nr b a sp d from ⟨A, D, pa⟩)]
      cases s with
      | none =>
        rw [show I 23 10 = -1 from P, if_pos (show (-1 : Int32) < nI (zcoi S nr d) from by
          apply Int32.lt_iff_toInt_lt.mpr
          rw [nI_toInt (by omega)]
          have : (-1 : Int32).toInt = -1 := by decide
          omega)]
        exact acc
      | some q =>
        obtain ⟨p1, p2, p3⟩ := P
        rw [p1]
        show ∃ I1, _ ∧ _ ∧ _ ∧ _ ∧ _ ∧ zDs S nr (if zcoi S nr q < zcoi S nr d then some d else some q) I1
        by_cases hp : zcoi S nr q < zcoi S nr d
        · rw [if_pos (nI_lt hp (by omega)), if_pos hp]
          exact acc
        · rw [if_neg (fun h => hp ((nI_ltI (by omega) (by omega)).mp h)), if_neg hp]
          exact rej
    · rw [if_neg pa, if_pos rfl, if_neg (show ¬ (zadm S nk nr b a sp x d ∧ zlok C S dy e nk nr b a sp d) from fun h => pa h.2.2)]
      split
      · exact rej
      · exact rej
  | succ n ih =>
    intro r d s I er F A D hz hzn h30 h32 P
    have hr6 : r < 6 := by omega
    have hw := zcoi_le N O A
    have hab := amb (6 - r) r (by omega)
    obtain ⟨F1, F2, F3, F4, F5, F6⟩ := id F
    have prune : (∃ q, s = some q ∧ zcoi S nr d + am r ≤ zcoi S nr q) → zen (zls_ C S dy e nk nr b a sp x) (nk + 1) nr (nr - r) d s = s := by
      rintro ⟨q, rfl, hq⟩
      refine zen_id _ _ _ _ _ _ (by omega) (fun d' hd' => ?_)
      unfold zls_
      by_cases h : zadm S nk nr b a sp x d' ∧ zlok C S dy e nk nr b a sp d'
      · rw [if_pos h]
        show (if zcoi S nr q < zcoi S nr d' then some d' else some q) = some q
        have u1 := z_upper M n3 h.1 (6 - r) r (by omega)
        have u2 : zsN (fun r => zwi S r (d' r - 1)) (fun j => !decide (d' j = 0) && decide (j < r)) nr ≤ zcoi S nr d := by
          have : ∀ m, m ≤ nr → zsN (fun r => zwi S r (d' r - 1)) (fun j => !decide (d' j = 0) && decide (j < r)) m ≤ zsN (fun r => zwi S r (d r - 1)) (fun j => !decide (d j = 0)) m := by
            intro m
            induction m with
            | zero => intro _; exact Nat.le_refl 0
            | succ m ihm =>
              intro hm
              have := ihm (by omega)
              unfold zsN
              by_cases l : m < r
              · rw [hd' m (by omega), decide_eq_true l, Bool.and_true]
                split <;> omega
              · rw [decide_eq_false l, Bool.and_false, if_neg (by decide)]
                split <;> omega
          exact this nr (Nat.le_refl nr)
        rw [if_neg (by omega)]
      · rw [if_neg h]
    have enter : I 23 10 < nI (zcoi S nr d) + I 25 r ∨ ((∃ q, s = some q ∧ zcoi S nr d + am r ≤ zcoi S nr q) ∧ ¬ I 23 10 < nI (zcoi S nr d) + I 25 r) := by
      rw [F5 r (by omega), nI_add]
      cases s with
      | none =>
        left
        rw [show I 23 10 = -1 from P]
        apply Int32.lt_iff_toInt_lt.mpr
        rw [nI_toInt (by omega)]
        have : (-1 : Int32).toInt = -1 := by decide
        omega
      | some q =>
        obtain ⟨p1, p2, p3⟩ := P
        rw [p1]
        by_cases hp : zcoi S nr q < zcoi S nr d + am r
        · exact Or.inl (nI_lt hp (by omega))
        · exact Or.inr ⟨⟨q, rfl, by omega⟩, fun h => hp ((nI_ltI (by omega) (by omega)).mp h)⟩
    rw [t_qd_search, if_neg (znn (by omega)), if_pos (show nI r < (6 : Int32) from nI_lt (b := 6) hr6 (by decide)), zif_n (by omega) (by omega), ztnn (by omega), nI_1]
    rcases enter with en | ⟨pr, en⟩
    · rw [if_pos en, a_ds (by omega) (by omega)]
      have d0 : d r = 0 := hz r (Nat.le_refl r)
      have em0 : zmu d (r + 1) = zmu d r := by
        show (if d r = 0 then zmu d r else _) = _
        rw [if_pos d0]
      obtain ⟨I4, a1, a2, a3, a4, a5, a6⟩ := ih (r + 1) d s I (by omega) F A D (fun j hj => hz j (by omega)) hzn h30 h32 P
      rw [em0] at a1
      rw [a1, zkV_s, zif_n (by omega) (by omega), zif_n (by omega) (by omega), zif_n (by omega) (by omega), ztnn (by omega), a2 25 (by decide) (by decide) (by decide) (by decide) (by decide), F5 r (by omega), F5 (r + 1) (by omega), a2 26 (by decide) (by decide) (by decide) (by decide) (by decide)]
      have ab1 := amb (6 - (r + 1)) (r + 1) (by omega)
      -- nothing more
      have stop : (r < nr → ∀ k, k < nk → zcl S b a sp x r k = false) → ∀ y, ∃ I1, qd_search_118 (3 + 2 * (7 - r)) (nI r) (nI (zcoi S nr d)) (zmu d r) y 0 0 σ I4 J = some (none, (zSC σ, I1, J)) ∧ (∀ i, i ≠ 23 → i ≠ 30 → i ≠ 31 → i ≠ 32 → i ≠ 33 → I1 i = I i) ∧ (∀ k, k ≠ 10 → I1 23 k = I 23 k) ∧ (∀ s, s < 8 → I1 30 s = I 30 s ∧ I1 31 s = I 31 s) ∧ (∀ j, j < 6 → I1 32 j = I 32 j) ∧ zDs S nr (zen (zls_ C S dy e nk nr b a sp x) (nk + 1) nr (nr - r) d s) I1 := by
        intro hno y
        have ez : zen (zls_ C S dy e nk nr b a sp x) (nk + 1) nr (nr - r) d s = zen (zls_ C S dy e nk nr b a sp x) (nk + 1) nr (nr - (r + 1)) d s := by
          by_cases hr : r < nr
          · obtain ⟨m, hm⟩ : ∃ m, nr - r = m + 1 := ⟨nr - r - 1, by omega⟩
            rw [hm, show nr - (r + 1) = m by omega]
            show zfo (fun s k => zen _ _ nr m (zup1 d (nr - (m + 1)) k) s) 0 (nk + 1) s = _
            rw [show nr - (m + 1) = r by omega, show nk + 1 = 1 + nk by omega, zfo_add]
            have e0 : zup1 d r 0 = d := by
              funext i
              by_cases q : i = r
              · subst q
                rw [zup1_at, d0]
              · rw [zup1_no q]
            have e1 : zfo (fun s k => zen (zls_ C S dy e nk nr b a sp x) (1 + nk) nr m (zup1 d r k) s) 0 1 s = zen (zls_ C S dy e nk nr b a sp x) (1 + nk) nr m d s := by
              show zen (zls_ C S dy e nk nr b a sp x) (1 + nk) nr m (zup1 d r (0 + 0)) s = _
              rw [Nat.add_zero, e0]
            rw [e1]
            refine zfo_idl nk (fun k h1 h2 => ?_)
            refine zen_id _ _ _ _ _ _ (by omega) (fun r' hr' => ?_)
            unfold zls_
            rw [if_neg]
            rintro ⟨hA, -⟩
            have := hA r hr
            rw [hr' r (by omega), zup1_at] at this
            rcases this with h | ⟨-, h⟩
            · omega
            · rw [hno hr (k - 1) (by omega)] at h
              cases h
          · rw [show nr - r = 0 by omega, show nr - (r + 1) = 0 by omega]
        rw [ez, t_qd_search_118, if_pos rfl, zif_n (by omega) (by omega), ztnn (by omega)]
        have self : zsI I4 32 r (-1) = I4 := by
          rw [zsI_zrI, u_id (by rw [a5 r hr6, h32 r hr6, d0]; decide), zrI_id rfl]
        rw [self]
        exact ⟨I4, rfl, a2, a3, a4, a5, a6⟩
      by_cases lt : am (r + 1) < am r
      · have hr : r < nr := m3 r hr6 lt
        have hhm := (zhm_e N O hr).2
        rw [if_pos (nI_lt lt (by omega)), F6 r hr, if_neg (znn (by omega)), if_pos (show nI (zhm S r) < (8 : Int32) from nI_lt (b := 8) (by omega) (by decide))]
        obtain ⟨m, hm⟩ : ∃ m, nr - r = m + 1 := ⟨nr - r - 1, by omega⟩
        have em : nr - (r + 1) = m := by omega
        rw [em] at a6
        rw [hm]
        show ∃ I1, _ ∧ _ ∧ _ ∧ _ ∧ _ ∧ zDs S nr (zfo (fun s k => zen (zls_ C S dy e nk nr b a sp x) (nk + 1) nr m (zup1 d (nr - (m + 1)) k) s) 0 (nk + 1) s) I1
        rw [show nr - (m + 1) = r by omega]
        have e0 : zup1 d r 0 = d := by
          funext i
          by_cases q : i = r
          · subst q
            rw [zup1_at, d0]
          · rw [zup1_no q]
        have eS : zfo (fun s k => zen (zls_ C S dy e nk nr b a sp x) (nk + 1) nr m (zup1 d r k) s) 0 (nk + 1) s = zfo (fun s k => zen (zls_ C S dy e nk nr b a sp x) (nk + 1) nr m (zup1 d r k) s) 1 nk (zen (zls_ C S dy e nk nr b a sp x) (nk + 1) nr m d s) := by
          rw [show zfo (fun s k => zen (zls_ C S dy e nk nr b a sp x) (nk + 1) nr m (zup1 d r k) s) 0 (nk + 1) s = zfo (fun s k => zen (zls_ C S dy e nk nr b a sp x) (nk + 1) nr m (zup1 d r k) s) 0 (1 + nk) s by rw [Nat.add_comm], zfo_add]
          show zfo _ (0 + 1) nk (zen (zls_ C S dy e nk nr b a sp x) (nk + 1) nr m (zup1 d r (0 + 0)) s) = _
          rw [Nat.add_zero, e0]
        rw [eS]
        have loop : ∀ (f k : Nat) (s : Option (Nat → Nat)) (I2 : zTI), k + f = 12 → (∀ i, i ≠ 23 → i ≠ 30 → i ≠ 31 → i ≠ 32 → i ≠ 33 → I2 i = I i) → (∀ k, k ≠ 10 → I2 23 k = I 23 k) → (∀ s, s < 8 → I2 30 s = I 30 s ∧ I2 31 s = I 31 s) → (∀ j, j < 6 → j ≠ r → I2 32 j = I 32 j) → zDs S nr s I2 → ∃ I1, qd_search_118 (3 + 2 * (7 - r)) (nI r) (nI (zcoi S nr d)) (zmu d r) (nI (zhm S r)) 1 (nI k) σ I2 J = some (none, (zSC σ, I1, J)) ∧ (∀ i, i ≠ 23 → i ≠ 30 → i ≠ 31 → i ≠ 32 → i ≠ 33 → I1 i = I i) ∧ (∀ k, k ≠ 10 → I1 23 k = I 23 k) ∧ (∀ s, s < 8 → I1 30 s = I 30 s ∧ I1 31 s = I 31 s) ∧ (∀ j, j < 6 → I1 32 j = I 32 j) ∧ zDs S nr (zfo (fun s k => zen (zls_ C S dy e nk nr b a sp x) (nk + 1) nr m (zup1 d r k) s) (k + 1) (nk - k) s) I1 := by
          intro f
          induction f with
          | zero =>
            intro k s I2 ek g1 g2 g3 g4 g5
            rw [t_qd_search_118, if_neg z10, if_neg (show ¬ nI k < (12 : Int32) from fun q => by have := (nI_ltI (b := 12) (by omega) (by decide)).mp q; omega), zif_n (by omega) (by omega), ztnn (by omega), show nk - k = 0 by omega]
            refine ⟨_, rfl, fun i b1 b2 b3 b4 b5 => by rw [zsI_ne _ _ _ b4, g1 i b1 b2 b3 b4 b5], fun k hk => by rw [zsI_ne _ _ _ (by decide), g2 k hk], fun s hs => by rw [zsI_ne _ _ _ (by decide), zsI_ne _ _ _ (by decide)]; exact g3 s hs, fun j hj => ?_, ?_⟩
            · by_cases q : j = r
              · subst q
                rw [zsI_at, h32 j hj, d0]
                decide
              · rw [zsI_no _ _ _ q, g4 j hj q]
            · show zDs S nr s _
              unfold zDs at g5 ⊢
              cases s with
              | none => simpa only [zsI_ne (b := 23) I2 r (-1) (show 23 ≠ 32 by decide)] using g5
              | some q => simpa only [zsI_ne (b := 23) I2 r (-1) (show 23 ≠ 32 by decide), zsI_ne (b := 33) I2 r (-1) (show 33 ≠ 32 by decide)] using g5
          | succ f ihf =>
            intro k s I2 ek g1 g2 g3 g4 g5
            have e24 : nI r * 12 + nI k = nI (12 * r + k) := by rw [show nI r * 12 = nI (12 * r) from by rw [Nat.mul_comm]; exact (Int32.ofNat_mul r 12).symm, nI_add]
            have f24 : I2 24 (12 * r + k) = if r < nr ∧ k < nk ∧ (zas S a sp x r && zab S b k) = true then nI (zwi S r k) else 0 := by
              rw [g1 24 (by decide) (by decide) (by decide) (by decide) (by decide)]
              exact F4 r k hr6 (by omega)
            rw [t_qd_search_118, if_neg z10, if_pos (show nI k < (12 : Int32) from nI_lt (b := 12) (by omega) (by decide)), e24, zif_n (by omega) (by omega), ztnn (by omega), show nI k + 1 = nI (k + 1) from nI_add k 1]
            -- not this one
            have skip : (k < nk → ∀ r', (∀ i, i < nr - m → r' i = zup1 d r (k + 1) i) → ¬ (zadm S nk nr b a sp x r' ∧ zlok C S dy e nk nr b a sp r')) → ∃ I1, qd_search_118 (3 + 2 * (7 - r)) (nI r) (nI (zcoi S nr d)) (zmu d r) (nI (zhm S r)) 1 (nI (k + 1)) σ I2 J = some (none, (zSC σ, I1, J)) ∧ (∀ i, i ≠ 23 → i ≠ 30 → i ≠ 31 → i ≠ 32 → i ≠ 33 → I1 i = I i) ∧ (∀ k, k ≠ 10 → I1 23 k = I 23 k) ∧ (∀ s, s < 8 → I1 30 s = I 30 s ∧ I1 31 s = I 31 s) ∧ (∀ j, j < 6 → I1 32 j = I 32 j) ∧ zDs S nr (zfo (fun s k => zen (zls_ C S dy e nk nr b a sp x) (nk + 1) nr m (zup1 d r k) s) (k + 1) (nk - k) s) I1 := by
              intro hno
              obtain ⟨I5, j1, j2, j3, j4, j5, j6⟩ := ihf (k + 1) s I2 (by omega) g1 g2 g3 g4 g5
              refine ⟨I5, j1, j2, j3, j4, j5, ?_⟩
              by_cases hk : k < nk
              · obtain ⟨e', he'⟩ : ∃ e', nk - k = 1 + e' := ⟨nk - k - 1, by omega⟩
                rw [he', zfo_add]
                rw [show nk - (k + 1) = e' by omega] at j6
                have ez : zfo (fun s k => zen (zls_ C S dy e nk nr b a sp x) (nk + 1) nr m (zup1 d r k) s) (k + 1) 1 s = s := by
                  show zen (zls_ C S dy e nk nr b a sp x) (nk + 1) nr m (zup1 d r (k + 1 + 0)) s = s
                  rw [Nat.add_zero]
                  refine zen_id _ _ _ _ _ _ (by omega) (fun r' hr' => ?_)
                  unfold zls_
                  rw [if_neg (hno hk r' hr')]
                rw [ez]
                exact j6
              · rw [show nk - k = 0 by omega]
                rw [show nk - (k + 1) = 0 by omega] at j6
                exact j6
            have dle : ∀ i, i < r → d i ≤ 12 := fun i hi => by
              rcases A i (by omega) with h | ⟨h, -⟩ <;> omega
            by_cases hc : k < nk ∧ zcl S b a sp x r k = true
            · obtain ⟨hk, hcl⟩ := hc
              have hcl2 := hcl
              unfold zcl at hcl2
              have hcl3 := (Bool.and_eq_true_iff.mp hcl2).1
              have hw0 : 0 < zwi S r k := of_decide_eq_true (Bool.and_eq_true_iff.mp hcl2).2
              have hzab : zab S b k = true := (Bool.and_eq_true_iff.mp hcl3).2
              have hwl := (zwi_e N O hr (show k < 12 by omega)).2
              rw [f24, if_pos (show r < nr ∧ k < nk ∧ (zas S a sp x r && zab S b k) = true from ⟨hr, hk, hcl3⟩), if_pos (show (0 : Int32) < nI (zwi S r k) from nI_lt (a := 0) hw0 (by omega))]
              by_cases hu : zuq d r k = true
              · have : ¬ (zmu d r >>> (nI k &&& 31)) &&& 1 = 0 := by
                  have h1 := (z_isOf (x := zmu d r) (show k < 32 by omega)).mpr (by rw [bt_mu r k dle (by omega)]; exact hu)
                  rw [h1]
                  decide
                rw [if_neg this]
                refine skip (fun _ r' hr' h => ?_)
                obtain ⟨j, hj, ej⟩ := (zuq_ex r).mp hu
                have h1 := h.2.1 r hr j (by omega) (by rw [hr' r (by omega), zup1_at]; omega) (by rw [hr' r (by omega), zup1_at, hr' j (by omega), zup1_no (by omega), ej])
                omega
              · have bz : (zmu d r >>> (nI k &&& 31)) &&& 1 = 0 := by
                  apply b_ext
                  intro i hi
                  rw [b_and, b_one i hi, b_0, b_sshr k (by omega) _ hi]
                  by_cases e : i = 0
                  · subst e
                    rw [if_pos (by omega), Nat.add_zero, bt_mu r k dle (by omega), Bool.eq_false_iff.mpr hu]
                    rfl
                  · rw [decide_eq_false e, Bool.and_false]
                have i27 : I2 27 k = zhv S k := by
                  rw [g1 27 (by decide) (by decide) (by decide) (by decide) (by decide)]
                  exact (F3 k hk hzab).1
                have i28 : I2 28 k = ztl S b k := by
                  rw [g1 28 (by decide) (by decide) (by decide) (by decide) (by decide)]
                  exact (F3 k hk hzab).2
                rw [if_pos bz, zif_n (by omega) (by omega), zif_n (by omega) (by omega), zif_n (by omega) (by omega), zif_n (by omega) (by omega), zif_n (by omega) (by omega), zif_n (by omega) (by omega), zif_n (by omega) (by omega), ztnn (show r < 2 ^ 31 by omega), ztnn (show zhm S r < 2 ^ 31 by omega), ztnn (show k < 2 ^ 31 by omega), show nI r + 1 = nI (r + 1) from nI_add r 1, nI_add, i27, i28, a_ds (by omega) (by omega)]
                have c1 : ∀ i, i < r → zup1 d r (k + 1) i = d i := fun i hi => zup1_no (by omega)
                have em1 : zmu d r ||| ((1 : Int32) <<< (nI k &&& 31)) = zmu (zup1 d r (k + 1)) (r + 1) := by
                  show _ = if zup1 d r (k + 1) r = 0 then zmu (zup1 d r (k + 1)) r else zmu (zup1 d r (k + 1)) r ||| ((1 : Int32) <<< (nI (zup1 d r (k + 1) r - 1) &&& 31))
                  rw [zup1_at, if_neg (by omega), Nat.add_sub_cancel, zmu_c r c1]
                rw [em1, ← zcoi_up d0 hr]
                have A1 : zadm S nk nr b a sp x (zup1 d r (k + 1)) := fun j hj => by
                  by_cases q : j = r
                  · subst q
                    rw [zup1_at]
                    exact Or.inr ⟨by omega, hcl⟩
                  · rw [zup1_no q]
                    exact A j hj
                have D1 : zNdu nr (zup1 d r (k + 1)) := fun i hi j hj h0 ee => by
                  by_cases qi : i = r
                  · by_cases qj : j = r
                    · omega
                    · exfalso
                      rw [qi, zup1_at, zup1_no qj] at ee
                      by_cases l : j < r
                      · exact hu ((zuq_ex r).mpr ⟨j, l, ee.symm⟩)
                      · rw [hz j (by omega)] at ee
                        omega
                  · by_cases qj : j = r
                    · exfalso
                      rw [qj, zup1_at, zup1_no qi] at ee
                      by_cases l : i < r
                      · exact hu ((zuq_ex r).mpr ⟨i, l, ee⟩)
                      · rw [hz i (by omega)] at ee
                        omega
                    · rw [zup1_no qi] at h0 ee
                      rw [zup1_no qj] at ee
                      exact D i hi j hj h0 ee
                have rows : ∀ s, s < 8 → (zsI (zsI (zsI I2 32 r (nI k)) 30 (zhm S r) (I2 30 (zhm S r) + zhv S k)) 31 (zhm S r) (I2 31 (zhm S r) + ztl S b k)) 30 s = zLs S nr (zhv S) (zup1 d r (k + 1)) s ∧ (zsI (zsI (zsI I2 32 r (nI k)) 30 (zhm S r) (I2 30 (zhm S r) + zhv S k)) 31 (zhm S r) (I2 31 (zhm S r) + ztl S b k)) 31 s = zLs S nr (ztl S b) (zup1 d r (k + 1)) s := fun s hs => by
                  rw [zLs_up d0 hr, zLs_up d0 hr, zsI_ne (b := 30) _ _ _ (by decide)]
                  by_cases q : s = zhm S r
                  · rw [if_pos q, if_pos q, q, zsI_at, zsI_at, (g3 _ (by omega)).1, (g3 _ (by omega)).2, (h30 _ (by omega)).1, (h30 _ (by omega)).2]
                    exact ⟨rfl, rfl⟩
                  · rw [if_neg q, if_neg q, zsI_no _ _ _ q, zsI_no _ _ _ q, zsI_ne (b := 30) _ _ _ (by decide), zsI_ne (b := 31) _ _ _ (by decide), zsI_ne (b := 31) _ _ _ (by decide), (g3 _ (by omega)).1, (g3 _ (by omega)).2, (h30 _ (by omega)).1, (h30 _ (by omega)).2]
                    exact ⟨rfl, rfl⟩
                have keep : ∀ i, i ≠ 30 → i ≠ 31 → i ≠ 32 → (zsI (zsI (zsI I2 32 r (nI k)) 30 (zhm S r) (I2 30 (zhm S r) + zhv S k)) 31 (zhm S r) (I2 31 (zhm S r) + ztl S b k)) i = I2 i := fun i b1 b2 b3 => by rw [zsI_ne _ _ _ b2, zsI_ne _ _ _ b1, zsI_ne _ _ _ b3]
                obtain ⟨I5, j1, j2, j3, j4, j5, j6⟩ := ih (r + 1) (zup1 d r (k + 1)) s (zsI (zsI (zsI I2 32 r (nI k)) 30 (zhm S r) (I2 30 (zhm S r) + zhv S k)) 31 (zhm S r) (I2 31 (zhm S r) + ztl S b k)) (by omega) (zDF_c F (fun i hi => by rw [keep i (by omega) (by omega) (by omega), g1 i (by omega) (by omega) (by omega) (by omega) (by omega)]) (fun k hk => by rw [keep 23 (by decide) (by decide) (by decide), g2 k hk])) A1 D1 (fun j hj => by rw [zup1_no (by omega)]; exact hz j (by omega)) (fun j hj => by rw [zup1_no (by omega)]; exact hzn j hj) rows (fun j hj => by
                  rw [zsI_ne _ _ _ (by decide), zsI_ne _ _ _ (by decide)]
                  by_cases q : j = r
                  · subst q
                    rw [zsI_at, zup1_at, ← nI_1]
                    exact (Int32.add_sub_cancel _ _).symm
                  · rw [zsI_no _ _ _ q, g4 j hj q, zup1_no q, h32 j hj]) (by
                  unfold zDs at g5 ⊢
                  cases s with
                  | none =>
                    rw [keep 23 (by decide) (by decide) (by decide)]
                    exact g5
                  | some q =>
                    rw [keep 23 (by decide) (by decide) (by decide), keep 33 (by decide) (by decide) (by decide)]
                    exact g5)
                rw [em] at j6
                have k27 : I5 27 k = zhv S k := by rw [j2 27 (by decide) (by decide) (by decide) (by decide) (by decide), keep 27 (by decide) (by decide) (by decide), i27]
                have k28 : I5 28 k = ztl S b k := by rw [j2 28 (by decide) (by decide) (by decide) (by decide) (by decide), keep 28 (by decide) (by decide) (by decide), i28]
                rw [j1, zkV_s, zif_n (by omega) (by omega), zif_n (by omega) (by omega), zif_n (by omega) (by omega), zif_n (by omega) (by omega), zif_n (by omega) (by omega), zif_n (by omega) (by omega), k27, k28]
                have back : ∀ s, s < 8 → (zsI (zsI I5 30 (zhm S r) (I5 30 (zhm S r) - zhv S k)) 31 (zhm S r) (I5 31 (zhm S r) - ztl S b k)) 30 s = I 30 s ∧ (zsI (zsI I5 30 (zhm S r) (I5 30 (zhm S r) - zhv S k)) 31 (zhm S r) (I5 31 (zhm S r) - ztl S b k)) 31 s = I 31 s := fun s hs => by
                  rw [zsI_ne (b := 30) _ _ _ (by decide)]
                  by_cases q : s = zhm S r
                  · rw [q, zsI_at, zsI_at, (j4 _ (by omega)).1, (j4 _ (by omega)).2, (rows _ (by omega)).1, (rows _ (by omega)).2, zLs_up d0 hr, zLs_up d0 hr, if_pos rfl, if_pos rfl, (h30 _ (by omega)).1, (h30 _ (by omega)).2, Int32.add_sub_cancel, Int32.add_sub_cancel]
                    exact ⟨rfl, rfl⟩
                  · rw [zsI_no _ _ _ q, zsI_no _ _ _ q, zsI_ne (b := 31) _ _ _ (by decide), (j4 _ hs).1, (j4 _ hs).2, (rows _ hs).1, (rows _ hs).2, zLs_up d0 hr, zLs_up d0 hr, if_neg q, if_neg q, (h30 _ hs).1, (h30 _ hs).2]
                    exact ⟨rfl, rfl⟩
                have keep5 : ∀ i, i ≠ 30 → i ≠ 31 → (zsI (zsI I5 30 (zhm S r) (I5 30 (zhm S r) - zhv S k)) 31 (zhm S r) (I5 31 (zhm S r) - ztl S b k)) i = I5 i := fun i b1 b2 => by rw [zsI_ne _ _ _ b2, zsI_ne _ _ _ b1]
                obtain ⟨I6, l1, l2, l3, l4, l5, l6⟩ := ihf (k + 1) (zen (zls_ C S dy e nk nr b a sp x) (nk + 1) nr m (zup1 d r (k + 1)) s) (zsI (zsI I5 30 (zhm S r) (I5 30 (zhm S r) - zhv S k)) 31 (zhm S r) (I5 31 (zhm S r) - ztl S b k)) (by omega) (fun i b1 b2 b3 b4 b5 => by rw [keep5 i b2 b3, j2 i b1 b2 b3 b4 b5, keep i b2 b3 b4, g1 i b1 b2 b3 b4 b5]) (fun k hk => by rw [keep5 23 (by decide) (by decide), j3 k hk, keep 23 (by decide) (by decide) (by decide), g2 k hk]) back (fun j hj hq => by
                  rw [keep5 32 (by decide) (by decide), j5 j hj, zsI_ne _ _ _ (by decide), zsI_ne _ _ _ (by decide), zsI_no _ _ _ hq, g4 j hj hq]) (by
                  unfold zDs at j6 ⊢
                  cases hc : zen (zls_ C S dy e nk nr b a sp x) (nk + 1) nr m (zup1 d r (k + 1)) s with
                  | none =>
                    rw [hc] at j6
                    rw [keep5 23 (by decide) (by decide)]
                    exact j6
                  | some q =>
                    rw [hc] at j6
                    rw [keep5 23 (by decide) (by decide), keep5 33 (by decide) (by decide)]
                    exact j6)
                refine ⟨I6, l1, l2, l3, l4, l5, ?_⟩
                obtain ⟨e', he'⟩ : ∃ e', nk - k = 1 + e' := ⟨nk - k - 1, by omega⟩
                rw [he', zfo_add]
                rw [show nk - (k + 1) = e' by omega] at l6
                exact l6
            · have hg : ¬ (0 : Int32) < I2 24 (12 * r + k) := by
                rw [f24]
                by_cases q : r < nr ∧ k < nk ∧ (zas S a sp x r && zab S b k) = true
                · rw [if_pos q]
                  intro hl
                  have hwl := (zwi_e N O hr (show k < 12 by omega)).2
                  have h1 := (nI_ltI (a := 0) (by decide) (by omega)).mp hl
                  refine hc ⟨q.2.1, ?_⟩
                  unfold zcl
                  rw [q.2.2, decide_eq_true h1]
                  rfl
                · rw [if_neg q]
                  decide
              rw [if_neg hg]
              refine skip (fun hk r' hr' h => ?_)
              have h1 := h.1 r hr
              rw [hr' r (by omega), zup1_at] at h1
              rcases h1 with h1 | ⟨-, h1⟩
              · omega
              · exact hc ⟨hk, h1⟩
        exact loop 12 0 (zen (zls_ C S dy e nk nr b a sp x) (nk + 1) nr m d s) I4 (by omega) a2 a3 a4 (fun j hj _ => a5 j hj) a6
      · rw [if_neg (fun h => lt ((nI_ltI (by omega) (by omega)).mp h))]
        refine stop (fun hr k hk => ?_) _
        cases hcl : zcl S b a sp x r k with
        | false => rfl
        | true =>
          have h1 := m2 r k hr hk hcl
          unfold zcl at hcl
          have := of_decide_eq_true (Bool.and_eq_true_iff.mp hcl).2
          omega
    · rw [if_neg en, prune pr]
      exact ⟨I, rfl, fun _ _ _ _ _ _ => rfl, fun _ _ => rfl, fun _ _ => ⟨rfl, rfl⟩, fun _ _ => rfl, P⟩
