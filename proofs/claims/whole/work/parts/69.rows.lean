/-! ===== lending: the reference tells rows through ===== -/
theorem zfo_idl {α : Type} {f : α → Nat → α} {s : α} {lo : Nat} : ∀ n, (∀ k, lo ≤ k → k < lo + n → f s k = s) → zfo f lo n s = s
  | 0, _ => rfl
  | n + 1, h => by
    show f (zfo f lo n s) (lo + n) = s
    rw [zfo_idl n (fun k h1 h2 => h k h1 (by omega)), h (lo + n) (by omega) (by omega)]
abbrev zlok (C S : Nat → Int32) (dy : Nat) (e : Int32) (nk nr b a sp : Nat) (d : Nat → Nat) : Prop := zNdu nr d ∧ (∀ s', s' < sp → a ≤ s' → zpas C S dy e nk nr b d s')
def zls_ (C S : Nat → Int32) (dy : Nat) (e : Int32) (nk nr b a sp : Nat) (x : Int32) (s : Option (Nat → Nat)) (d : Nat → Nat) : Option (Nat → Nat) :=
  if zadm S nk nr b a sp x d ∧ zlok C S dy e nk nr b a sp d then match s with
    | none => some d
    | some q => if zcoi S nr q < zcoi S nr d then some d else some q
  else s
def zE30 (S : Nat → Int32) (nr : Nat) : Option (Nat → Nat) → Int32
  | none => -2
  | some q => nI (zcoi S nr q)
def zMl (nr : Nat) (s : Option (Nat → Nat)) (I : zTI) : Prop := match s with
  | none => True
  | some q => ∀ r, r < nr → I 13 r = nI (q r) - 1
theorem zcoi_le {nb nk ns nr nh b a sp : Nat} {S : Nat → Int32} {x : Int32} {d : Nat → Nat} (N : zNs nb nk ns nr nh) (O : zOK nb nk ns nr nh S) (A : zadm S nk nr b a sp x d) : zcoi S nr d ≤ 594 := by
  obtain ⟨n0, n1, n2, n3, n4⟩ := id N
  have := zsN_le (f := fun r => zwi S r (d r - 1)) (p := fun r => !decide (d r = 0)) (c := 99) nr (fun r hr => (zwi_e N O hr (show d r - 1 < 12 by
    rcases A r hr with h | ⟨h, -⟩ <;> omega)).2)
  unfold zcoi
  omega
theorem p_t61 {J : zTJ} {x1 x2 x3 : Int32} {nr : Nat} {d : Nat → Nat} (hn : nr ≤ 6) : ∀ (m i : Nat) (I : zTI), i + m = 6 → (∀ r, r < nr → I 12 r = nI (d r) - 1) → (∀ r, r < i → r < nr → I 13 r = nI (d r) - 1) → I 10 3 = nI nr → ∃ I1, qm_tellsThrough_61 x1 x2 x3 (nI i) I J = zkI (qm_nextRow_10 x1 x2 x3 (nI nr - 1) I1 J) zSM (fun r3 I1 J2 => (if r3 = 0 then (some (none, (zSM, I1, J2))) else (qm_tellsThrough_30 x1 x2 x3 I1 J2))) ∧ (∀ i, i ≠ 13 → I1 i = I i) ∧ (∀ r, r < nr → I1 13 r = nI (d r) - 1) := by
  intro m
  induction m with
  | zero =>
    intro i I e h12 h13 h3
    rw [t_qm_tellsThrough_61, if_neg (show ¬ nI i < (6 : Int32) from fun q => by have := (nI_ltI (b := 6) (by omega) (by decide)).mp q; omega), t_qm_nextRow, h3]
    exact ⟨I, rfl, fun _ _ => rfl, fun r hr => h13 r (by omega) hr⟩
  | succ m ih =>
    intro i I e h12 h13 h3
    rw [t_qm_tellsThrough_61, if_pos (show nI i < (6 : Int32) from nI_lt (b := 6) (by omega) (by decide)), zif_n (by omega) (by omega), zif_n (by omega) (by omega), ztnn (by omega), nI_1, zsI_zrI]
    obtain ⟨I1, f1, f2, f3⟩ := ih (i + 1) (zrI I 13 (upd (I 13) i (I 12 i))) (by omega) (fun r hr => by rw [zrI_ne _ _ (by decide)]; exact h12 r hr) (fun r hr hr2 => by
      rw [zrI_row]
      by_cases q : r = i
      · subst q
        rw [u_at]
        exact h12 r hr2
      · rw [u_no q]
        exact h13 r (by omega) hr2) (by rw [zrI_ne _ _ (by decide)]; exact h3)
    exact ⟨I1, f1, fun k hk => by rw [f2 k hk, zrI_ne _ _ hk], f3⟩
theorem p_canAsk {nb nk ns nr nh b a sp i : Nat} {C : Nat → Int32} {I : zTI} {J : zTJ} {x : Int32} (G : zGood nb nk ns nr nh C (I 10)) (hb : b < nb) (ea : I 10 (6 + 7 * b + 5) = nI a) (ha : a < ns) (hsp : sp < ns) (hi : i < nr) : qm_canAsk (nI i) (nI b) (nI sp) x I J = some (some (.int (if zas (I 10) a sp x i = true then 1 else 0)), (zSM, I, J)) := by
  obtain ⟨⟨n0, n1, n2, n3, n4⟩, -⟩ := id G.1
  obtain ⟨eh, hh⟩ := zhm_e G.1.ns G.2.1 hi
  rw [t_qm_canAsk]
  unfold zas
  by_cases q : nI i = x
  · rw [if_pos q, decide_eq_true q]; rfl
  · rw [if_neg q, decide_eq_false q, pr3 (by omega), zkI_s]
    by_cases q2 : I 10 (144 + 5 * i + 3) < 0
    · rw [if_pos q2, decide_eq_true q2, pr0 (by omega), zkI_s, pst (by omega), zkI_s, ea, eh, p_in2 (a := nI a) (b := nI sp) (Int32.toInt_toInt64 _) (Int32.toInt_toInt64 _), zkI_s]
      by_cases q3 : a ≤ zhm (I 10) i ∧ zhm (I 10) i ≤ sp
      · rw [if_pos (show ¬ nI (zhm (I 10) i) < nI a ∧ ¬ nI sp < nI (zhm (I 10) i) from ⟨fun h => by have := (nI_ltI (by omega) (by omega)).mp h; omega, fun h => by have := (nI_ltI (by omega) (by omega)).mp h; omega⟩), if_neg z10, decide_eq_true q3]; rfl
      · rw [if_neg (show ¬ (¬ nI (zhm (I 10) i) < nI a ∧ ¬ nI sp < nI (zhm (I 10) i)) from fun h => q3 ⟨by
          by_cases l : a ≤ zhm (I 10) i
          · exact l
          · exact absurd (nI_lt (show zhm (I 10) i < a by omega) (by omega)) h.1, by
          by_cases l : zhm (I 10) i ≤ sp
          · exact l
          · exact absurd (nI_lt (show sp < zhm (I 10) i by omega) (by omega)) h.2⟩), if_pos rfl, decide_eq_false q3]; rfl
    · rw [if_neg q2, decide_eq_false q2]; rfl
theorem p_nextBook {nb nk ns nr nh b i : Nat} {C : Nat → Int32} {I : zTI} {J : zTJ} (G : zGood nb nk ns nr nh C (I 10)) (hi : i < nr) : ∀ m k, k + m = nk → (qm_nextBook_5 (nI i) (nI b) (nI k) I J = some (some (.int (-1)), (zSM, I, J)) ∧ ∀ k', k ≤ k' → k' < nk → (zab (I 10) b k' && decide (0 < zwi (I 10) i k')) = false) ∨ (∃ k', k ≤ k' ∧ k' < nk ∧ qm_nextBook_5 (nI i) (nI b) (nI k) I J = some (some (.int (nI k')), (zSM, I, J)) ∧ (zab (I 10) b k' && decide (0 < zwi (I 10) i k')) = true ∧ ∀ k'', k ≤ k'' → k'' < k' → (zab (I 10) b k'' && decide (0 < zwi (I 10) i k'')) = false) := by
  obtain ⟨⟨n0, n1, n2, n3, n4⟩, ⟨s0, s1, s2, s3, s4⟩, -⟩ := id G.1
  intro m
  induction m with
  | zero =>
    intro k e
    left
    rw [t_qm_nextBook_5, s1, if_neg (fun q => by have := (nI_ltI (by omega) (by omega)).mp q; omega)]
    exact ⟨rfl, fun k' h1 h2 => absurd h1 (by omega)⟩
  | succ m ih =>
    intro k e
    obtain ⟨ew, hw⟩ := zwi_e G.1.ns G.2.1 hi (show k < 12 by omega)
    rw [t_qm_nextBook_5, s1, if_pos (nI_lt (by omega) (by omega)), p_isAboard (by omega), zkI_s, pw_ (by omega) (by omega), zkI_s, ew, nI_1]
    have no : (zab (I 10) b k && decide (0 < zwi (I 10) i k)) = false → (qm_nextBook_5 (nI i) (nI b) (nI (k + 1)) I J = some (some (.int (-1)), (zSM, I, J)) ∧ ∀ k', k ≤ k' → k' < nk → (zab (I 10) b k' && decide (0 < zwi (I 10) i k')) = false) ∨ (∃ k', k ≤ k' ∧ k' < nk ∧ qm_nextBook_5 (nI i) (nI b) (nI (k + 1)) I J = some (some (.int (nI k')), (zSM, I, J)) ∧ (zab (I 10) b k' && decide (0 < zwi (I 10) i k')) = true ∧ ∀ k'', k ≤ k'' → k'' < k' → (zab (I 10) b k'' && decide (0 < zwi (I 10) i k'')) = false) := by
      intro hk
      rcases ih (k + 1) (by omega) with ⟨a1, a2⟩ | ⟨k', a1, a2, a3, a4, a5⟩
      · refine Or.inl ⟨a1, fun k' h1 h2 => ?_⟩
        by_cases q : k' = k
        · subst q
          exact hk
        · exact a2 k' (by omega) h2
      · refine Or.inr ⟨k', by omega, a2, a3, a4, fun k'' h1 h2 => ?_⟩
        by_cases q : k'' = k
        · subst q
          exact hk
        · exact a5 k'' (by omega) h2
    by_cases q1 : I 10 (20 + 7 * k + 4) = 100 + nI b
    · rw [if_pos q1, if_neg z10]
      by_cases q2 : 0 < zwi (I 10) i k
      · rw [if_pos (show (0 : Int32) < nI (zwi (I 10) i k) from nI_lt (a := 0) q2 (by omega))]
        exact Or.inr ⟨k, Nat.le_refl k, by omega, rfl, by unfold zab; rw [decide_eq_true q1, decide_eq_true q2]; rfl, fun k'' h1 h2 => absurd h1 (by omega)⟩
      · rw [if_neg (show ¬ (0 : Int32) < nI (zwi (I 10) i k) from fun h => q2 ((nI_ltI (a := 0) (by decide) (by omega)).mp h))]
        exact no (by rw [decide_eq_false q2, Bool.and_false])
    · rw [if_neg q1, if_pos rfl]
      exact no (by unfold zab; rw [decide_eq_false q1, Bool.false_and])
set_option maxHeartbeats 8000000 in
theorem p_teM {nb nk ns nr nh b a sp dy : Nat} {J : zTJ} {C S : Nat → Int32} {x e : Int32} (G : zGood nb nk ns nr nh C S) (hb : b < nb) (ea : S (6 + 7 * b + 5) = nI a) (has : a ≤ sp) (hsp : sp < ns) (hdy : dy ≤ 9999) (edy : S 5 = nI dy) :
    ∀ (n : Nat) (d : Nat → Nat) (s : Option (Nat → Nat)) (I : zTI), n ≤ nr → I 10 = S → I 0 23 = e → zadm S nk nr b a sp x d → (∀ i, nr - n ≤ i → i < nr → d i = 0) → (∀ r, r < nr → I 12 r = nI (d r) - 1) → I 0 30 = zE30 S nr s → zMl nr s I → (∀ q, s = some q → zcoi S nr q ≤ 594) → ∃ I1, qm_tellsThrough_30 (nI b) (nI sp) x I J = zkI (qm_nextRow_10 (nI b) (nI sp) x (nI (nr - n) - 1) I1 J) zSM (fun r3 I1 J2 => (if r3 = 0 then (some (none, (zSM, I1, J2))) else (qm_tellsThrough_30 (nI b) (nI sp) x I1 J2))) ∧ (∀ i, i ≠ 0 → i ≠ 12 → i ≠ 13 → I1 i = I i) ∧ (∀ k, k ≠ 30 → I1 0 k = I 0 k) ∧ (∀ r, r < nr → I1 12 r = nI (d r) - 1) ∧ I1 0 30 = zE30 S nr (zen (zls_ C S dy e nk nr b a sp x) (nk + 1) nr n d s) ∧ zMl nr (zen (zls_ C S dy e nk nr b a sp x) (nk + 1) nr n d s) I1 ∧ (∀ q, zen (zls_ C S dy e nk nr b a sp x) (nk + 1) nr n d s = some q → zcoi S nr q ≤ 594) := by
  obtain ⟨⟨n0, n1, n2, n3, n4⟩, ⟨s0, s1, s2, s3, s4⟩, -⟩ := id G.1
  intro n
  induction n with
  | zero =>
    intro d s I hn eS ee A hz h12 h30 hM hs
    subst eS
    subst ee
    have hw := zcoi_le G.1.ns G.2.1 A
    show ∃ I1, _ ∧ _ ∧ _ ∧ _ ∧ I1 0 30 = zE30 (I 10) nr (zls_ C (I 10) dy (I 0 23) nk nr b a sp x s d) ∧ zMl nr (zls_ C (I 10) dy (I 0 23) nk nr b a sp x s d) I1 ∧ (∀ q, zls_ C (I 10) dy (I 0 23) nk nr b a sp x s d = some q → zcoi (I 10) nr q ≤ 594)
    rw [t_qm_tellsThrough_30, p_coinsOf G hb ea has hsp hdy edy A h12, zkI_s, Nat.sub_zero, h30]
    have rej : ∃ I1, (zkI (qm_nextRow (nI b) (nI sp) x I J) zSM (fun r6 I4 J5 => (if r6 = 0 then (some (none, (zSM, I4, J5))) else (qm_tellsThrough_30 (nI b) (nI sp) x I4 J5)))) = zkI (qm_nextRow_10 (nI b) (nI sp) x (nI nr - 1) I1 J) zSM (fun r3 I1 J2 => (if r3 = 0 then (some (none, (zSM, I1, J2))) else (qm_tellsThrough_30 (nI b) (nI sp) x I1 J2))) ∧ (∀ i, i ≠ 0 → i ≠ 12 → i ≠ 13 → I1 i = I i) ∧ (∀ k, k ≠ 30 → I1 0 k = I 0 k) ∧ (∀ r, r < nr → I1 12 r = nI (d r) - 1) ∧ I1 0 30 = zE30 (I 10) nr s ∧ zMl nr s I1 ∧ (∀ q, s = some q → zcoi (I 10) nr q ≤ 594) := by
      rw [t_qm_nextRow, s3]
      exact ⟨I, rfl, fun _ _ _ _ => rfl, fun _ _ => rfl, h12, h30, hM, hs⟩
    by_cases L : zlok C (I 10) dy (I 0 23) nk nr b a sp d
    · have L' : zNdu nr d ∧ (∀ s', s' < sp → a ≤ s' → zpas C (I 10) dy (I 0 23) nk nr b d s') := L
      rw [if_pos L']
      have take : ∃ I1, qm_tellsThrough_61 (nI b) (nI sp) x 0 (zsI I 0 30 (nI (zcoi (I 10) nr d))) J = zkI (qm_nextRow_10 (nI b) (nI sp) x (nI nr - 1) I1 J) zSM (fun r3 I1 J2 => (if r3 = 0 then (some (none, (zSM, I1, J2))) else (qm_tellsThrough_30 (nI b) (nI sp) x I1 J2))) ∧ (∀ i, i ≠ 0 → i ≠ 12 → i ≠ 13 → I1 i = I i) ∧ (∀ k, k ≠ 30 → I1 0 k = I 0 k) ∧ (∀ r, r < nr → I1 12 r = nI (d r) - 1) ∧ I1 0 30 = zE30 (I 10) nr (some d) ∧ zMl nr (some d) I1 ∧ (∀ q, some d = some q → zcoi (I 10) nr q ≤ 594) := by
        obtain ⟨I1, f1, f2, f3⟩ := p_t61 (J := J) (x1 := nI b) (x2 := nI sp) (x3 := x) (d := d) n3 6 0 (zsI I 0 30 (nI (zcoi (I 10) nr d))) (by omega) (fun r hr => by rw [zsI_ne _ _ _ (by decide)]; exact h12 r hr) (fun r hr => absurd hr (by omega)) (by rw [zsI_ne _ _ _ (by decide)]; exact s3)
        refine ⟨I1, f1, fun i a1 a2 a3 => by rw [f2 i a3, zsI_ne _ _ _ a1], fun k hk => by rw [f2 0 (by decide), zsI_no _ _ _ hk], fun r hr => by rw [f2 12 (by decide), zsI_ne _ _ _ (by decide)]; exact h12 r hr, by rw [f2 0 (by decide), zsI_at]; rfl, f3, fun q hq => by cases hq; exact hw⟩
      unfold zls_
      rw [if_pos (show zadm (I 10) nk nr b a sp x d ∧ zlok C (I 10) dy (I 0 23) nk nr b a sp d from ⟨A, L⟩)]
      cases s with
      | none =>
        rw [show zE30 (I 10) nr none = -2 from rfl, if_pos (show (-2 : Int32) < nI (zcoi (I 10) nr d) from by
          apply Int32.lt_iff_toInt_lt.mpr
          rw [nI_toInt (by omega)]
          have : (-2 : Int32).toInt = -2 := by decide
          omega), if_neg (znn (by omega))]
        exact take
      | some q =>
        have hq := hs q rfl
        rw [show zE30 (I 10) nr (some q) = nI (zcoi (I 10) nr q) from rfl]
        show ∃ I1, _ ∧ _ ∧ _ ∧ _ ∧ I1 0 30 = zE30 (I 10) nr (if zcoi (I 10) nr q < zcoi (I 10) nr d then some d else some q) ∧ zMl nr (if zcoi (I 10) nr q < zcoi (I 10) nr d then some d else some q) I1 ∧ (∀ q', (if zcoi (I 10) nr q < zcoi (I 10) nr d then some d else some q) = some q' → zcoi (I 10) nr q' ≤ 594)
        by_cases hp : zcoi (I 10) nr q < zcoi (I 10) nr d
        · rw [if_pos (nI_lt hp (by omega)), if_neg (znn (by omega)), if_pos hp]
          exact take
        · rw [if_neg (fun h => hp ((nI_ltI (by omega) (by omega)).mp h)), if_neg hp]
          exact rej
    · have L' : ¬ (zNdu nr d ∧ (∀ s', s' < sp → a ≤ s' → zpas C (I 10) dy (I 0 23) nk nr b d s')) := L
      rw [if_neg L']
      unfold zls_
      rw [if_neg (show ¬ (zadm (I 10) nk nr b a sp x d ∧ zlok C (I 10) dy (I 0 23) nk nr b a sp d) from fun h => L h.2)]
      cases s with
      | none =>
        rw [show zE30 (I 10) nr none = -2 from rfl, if_pos (show (-2 : Int32) < -1 by decide), if_pos (show (-1 : Int32) < 0 by decide)]
        exact rej
      | some q =>
        have hq := hs q rfl
        rw [show zE30 (I 10) nr (some q) = nI (zcoi (I 10) nr q) from rfl, if_neg (show ¬ nI (zcoi (I 10) nr q) < -1 from fun h => by
          have := Int32.lt_iff_toInt_lt.mp h
          rw [nI_toInt (by omega)] at this
          have : (-1 : Int32).toInt = -1 := by decide
          omega)]
        exact rej
  | succ n ih =>
    intro d s I hn eS ee A hz h12 h30 hM hs
    -- rows that can't be
    have noop : ∀ (v : Nat) (s : Option (Nat → Nat)), v ≤ nk → v ≠ 0 → zcl S b a sp x (nr - (n + 1)) (v - 1) = false → zen (zls_ C S dy e nk nr b a sp x) (nk + 1) nr n (zup1 d (nr - (n + 1)) v) s = s := fun v s hv h0 hc => by
      refine zen_id _ _ _ _ _ _ (by omega) (fun r' hr' => ?_)
      unfold zls_
      rw [if_neg]
      rintro ⟨hA, -⟩
      have := hA (nr - (n + 1)) (by omega)
      rw [hr' (nr - (n + 1)) (by omega), zup1_at] at this
      rcases this with h | ⟨-, h⟩
      · exact h0 h
      · rw [hc] at h
        cases h
    have loop : ∀ (m c : Nat) (s : Option (Nat → Nat)) (I : zTI), c + m = nk → I 10 = S → I 0 23 = e → zadm S nk nr b a sp x (zup1 d (nr - (n + 1)) c) → (∀ r, r < nr → I 12 r = nI (zup1 d (nr - (n + 1)) c r) - 1) → I 0 30 = zE30 S nr s → zMl nr s I → (∀ q, s = some q → zcoi S nr q ≤ 594) → ∃ I1, qm_tellsThrough_30 (nI b) (nI sp) x I J = zkI (qm_nextRow_10 (nI b) (nI sp) x (nI (nr - (n + 1)) - 1) I1 J) zSM (fun r3 I1 J2 => (if r3 = 0 then (some (none, (zSM, I1, J2))) else (qm_tellsThrough_30 (nI b) (nI sp) x I1 J2))) ∧ (∀ i, i ≠ 0 → i ≠ 12 → i ≠ 13 → I1 i = I i) ∧ (∀ k, k ≠ 30 → I1 0 k = I 0 k) ∧ (∀ r, r < nr → I1 12 r = nI (d r) - 1) ∧ I1 0 30 = zE30 S nr (zfo (fun s k => zen (zls_ C S dy e nk nr b a sp x) (nk + 1) nr n (zup1 d (nr - (n + 1)) k) s) c (m + 1) s) ∧ zMl nr (zfo (fun s k => zen (zls_ C S dy e nk nr b a sp x) (nk + 1) nr n (zup1 d (nr - (n + 1)) k) s) c (m + 1) s) I1 ∧ (∀ q, zfo (fun s k => zen (zls_ C S dy e nk nr b a sp x) (nk + 1) nr n (zup1 d (nr - (n + 1)) k) s) c (m + 1) s = some q → zcoi S nr q ≤ 594) := by
      intro m
      induction m using Nat.strongRecOn with
      | _ m ihm =>
        intro c s I ec eS ee A h12 h30 hM hs
        obtain ⟨I1, f1, f2, f3, f4, f5, f6, f7⟩ := ih (zup1 d (nr - (n + 1)) c) s I (by omega) eS ee A (fun i h1 h2 => by rw [zup1_no (by omega)]; exact hz i (by omega) h2) h12 h30 hM hs
        have e1 : nI (nr - n) - 1 = nI (nr - (n + 1)) := by
          rw [show nr - n = (nr - (n + 1)) + 1 by omega, ← nI_1]
          exact Int32.add_sub_cancel _ _
        have hi : nr - (n + 1) < nr := by omega
        have i10 : I1 10 = S := by rw [f2 10 (by decide) (by decide) (by decide), eS]
        have i12 := f4 _ hi
        rw [zup1_at] at i12
        have eS1 : zfo (fun s k => zen (zls_ C S dy e nk nr b a sp x) (nk + 1) nr n (zup1 d (nr - (n + 1)) k) s) c (m + 1) s = zfo (fun s k => zen (zls_ C S dy e nk nr b a sp x) (nk + 1) nr n (zup1 d (nr - (n + 1)) k) s) (c + 1) m (zen (zls_ C S dy e nk nr b a sp x) (nk + 1) nr n (zup1 d (nr - (n + 1)) c) s) := by
          rw [show m + 1 = 1 + m by omega, zfo_add]
          rfl
        generalize hs1 : zen (zls_ C S dy e nk nr b a sp x) (nk + 1) nr n (zup1 d (nr - (n + 1)) c) s = s1 at f5 f6 f7 eS1
        have back : (∀ k', c ≤ k' → k' < nk → zcl S b a sp x (nr - (n + 1)) k' = false) → ∃ I2, zkI (qm_nextRow_10 (nI b) (nI sp) x (nI (nr - (n + 1)) + (-1)) (zsI I1 12 (nr - (n + 1)) (-1)) J) zSM (fun r3 I1 J2 => (if r3 = 0 then (some (none, (zSM, I1, J2))) else (qm_tellsThrough_30 (nI b) (nI sp) x I1 J2))) = zkI (qm_nextRow_10 (nI b) (nI sp) x (nI (nr - (n + 1)) - 1) I2 J) zSM (fun r3 I1 J2 => (if r3 = 0 then (some (none, (zSM, I1, J2))) else (qm_tellsThrough_30 (nI b) (nI sp) x I1 J2))) ∧ (∀ i, i ≠ 0 → i ≠ 12 → i ≠ 13 → I2 i = I i) ∧ (∀ k, k ≠ 30 → I2 0 k = I 0 k) ∧ (∀ r, r < nr → I2 12 r = nI (d r) - 1) ∧ I2 0 30 = zE30 S nr (zfo (fun s k => zen (zls_ C S dy e nk nr b a sp x) (nk + 1) nr n (zup1 d (nr - (n + 1)) k) s) c (m + 1) s) ∧ zMl nr (zfo (fun s k => zen (zls_ C S dy e nk nr b a sp x) (nk + 1) nr n (zup1 d (nr - (n + 1)) k) s) c (m + 1) s) I2 ∧ (∀ q, zfo (fun s k => zen (zls_ C S dy e nk nr b a sp x) (nk + 1) nr n (zup1 d (nr - (n + 1)) k) s) c (m + 1) s = some q → zcoi S nr q ≤ 594) := by
          intro hno
          have ez : zfo (fun s k => zen (zls_ C S dy e nk nr b a sp x) (nk + 1) nr n (zup1 d (nr - (n + 1)) k) s) c (m + 1) s = s1 := by
            rw [eS1]
            exact zfo_idl m (fun k h1 h2 => noop k s1 (by omega) (by omega) (hno (k - 1) (by omega) (by omega)))
          rw [ez]
          refine ⟨zsI I1 12 (nr - (n + 1)) (-1), by rw [Int32.sub_eq_add_neg], fun i a1 a2 a3 => by rw [zsI_ne _ _ _ a2, f2 i a1 a2 a3], fun k hk => by rw [zsI_ne _ _ _ (by decide), f3 k hk], fun r hr => ?_, by rw [zsI_ne _ _ _ (by decide)]; exact f5, ?_, f7⟩
          · by_cases q : r = nr - (n + 1)
            · subst q
              rw [zsI_at, hz _ (by omega) hr]
              decide
            · rw [zsI_no _ _ _ q, f4 r hr, zup1_no q]
          · unfold zMl at f6 ⊢
            cases s1 with
            | none => trivial
            | some q =>
              intro r hr
              rw [zsI_ne _ _ _ (by decide)]
              exact f6 r hr
        rw [f1, e1, t_qm_nextRow_10, if_neg (znn (by omega)), p_canAsk (a := a) (nb := nb) (nk := nk) (ns := ns) (nr := nr) (nh := nh) (C := C) (by rw [i10]; exact G) hb (by rw [i10]; exact ea) (by omega) hsp hi, zkI_s, i10]
        by_cases qa : zas S a sp x (nr - (n + 1)) = true
        · have xb : nI c - 1 + 1 = nI c := z_kk c
          rw [if_pos qa, if_neg z10, zif_n (by omega) (by omega), ztnn (by omega), i12, t_qm_nextBook, xb]
          rcases p_nextBook (b := b) (J := J) (nb := nb) (nk := nk) (ns := ns) (nr := nr) (nh := nh) (C := C) (I := I1) (by rw [i10]; exact G) hi (nk - c) c (by omega) with ⟨g1, g2⟩ | ⟨k', g0, g1, g2, g3, g4⟩
          · rw [g1, zkI_s, zif_n (by omega) (by omega), if_pos (show (-1 : Int32) < 0 by decide)]
            rw [i10] at g2
            exact back (fun k' h1 h2 => by
              unfold zcl
              rw [Bool.and_assoc, g2 k' h1 h2, Bool.and_false])
          · rw [i10] at g3 g4
            rw [g2, zkI_s, zif_n (by omega) (by omega), if_neg (znn (by omega)), zkI_s, if_neg z10]
            have hck : zcl S b a sp x (nr - (n + 1)) k' = true := by
              unfold zcl
              rw [Bool.and_assoc, g3, qa]
              rfl
            obtain ⟨I2, j1, j2, j3, j4, j5, j6, j7⟩ := ihm (nk - (k' + 1)) (by omega) (k' + 1) s1 (zsI I1 12 (nr - (n + 1)) (nI k')) (by omega) (by rw [zsI_ne _ _ _ (by decide)]; exact i10) (by rw [zsI_ne _ _ _ (by decide), f3 23 (by decide)]; exact ee) (fun r hr => by
              by_cases q : r = nr - (n + 1)
              · subst q
                rw [zup1_at]
                exact Or.inr ⟨by omega, hck⟩
              · rw [zup1_no q]
                have := A r hr
                rw [zup1_no q] at this
                exact this) (fun r hr => by
              by_cases q : r = nr - (n + 1)
              · subst q
                rw [zsI_at, zup1_at, ← nI_1]
                exact (Int32.add_sub_cancel _ _).symm
              · rw [zsI_no _ _ _ q, f4 r hr, zup1_no q, zup1_no q]) (by rw [zsI_ne _ _ _ (by decide)]; exact f5) (by
              unfold zMl at f6 ⊢
              cases s1 with
              | none => trivial
              | some q =>
                intro r hr
                rw [zsI_ne _ _ _ (by decide)]
                exact f6 r hr) f7
            have ez : zfo (fun s k => zen (zls_ C S dy e nk nr b a sp x) (nk + 1) nr n (zup1 d (nr - (n + 1)) k) s) c (m + 1) s = zfo (fun s k => zen (zls_ C S dy e nk nr b a sp x) (nk + 1) nr n (zup1 d (nr - (n + 1)) k) s) (k' + 1) (nk - (k' + 1) + 1) s1 := by
              rw [eS1, show m = (k' - c) + (nk - (k' + 1) + 1) by omega, zfo_add, zfo_idl (k' - c) (fun k h1 h2 => noop k s1 (by omega) (by omega) (by
                unfold zcl
                rw [Bool.and_assoc, g4 (k - 1) (by omega) (by omega), Bool.and_false])), show c + 1 + (k' - c) = k' + 1 by omega]
            rw [ez]
            exact ⟨I2, j1, fun i a1 a2 a3 => by rw [j2 i a1 a2 a3, zsI_ne _ _ _ a2, f2 i a1 a2 a3], fun k hk => by rw [j3 k hk, zsI_ne _ _ _ (by decide), f3 k hk], j4, j5, j6, j7⟩
        · rw [if_neg qa, if_pos rfl, zif_n (by omega) (by omega), ztnn (by omega)]
          exact back (fun k' h1 h2 => by
            unfold zcl
            rw [Bool.eq_false_iff.mpr qa, Bool.false_and, Bool.false_and])
    have hup : zup1 d (nr - (n + 1)) 0 = d := by
      funext i
      by_cases q : i = nr - (n + 1)
      · subst q
        rw [zup1_at, hz _ (by omega) (by omega)]
      · rw [zup1_no q]
    exact loop nk 0 s I (by omega) eS ee (by rw [hup]; exact A) (by rw [hup]; exact h12) h30 hM hs
