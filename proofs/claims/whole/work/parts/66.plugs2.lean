/-! ===== plugs: the reference ===== -/
theorem p_plugRowL {nb nk ns nr nh o : Nat} {I : zTI} {J : zTJ} {C : Nat → Int32} {op r : Nat → Nat} (G : zGood nb nk ns nr nh C (I 10)) (ho : o ≤ 4) (h14 : ∀ i, i < o → I 14 i = nI (op i) ∧ op i < nh) (h15 : ∀ i, i < o → I 15 i = nI (r i)) (hr : ∀ i, i < o → r i < nk) : ∀ d i, i + d = o → zvl (I 10) op r i = true → qm_isPlugRow_4 (nI o) (zmk r i) (nI i) I J = some (some (.int (if zvl (I 10) op r o = true then 1 else 0)), (zSM, I, J)) := by
  have n1 := G.1.ns.2.1
  intro d
  induction d with
  | zero =>
    intro i e V
    rw [t_qm_isPlugRow_4, if_neg (fun q => by have := (nI_ltI (by omega) (by omega)).mp q; omega), ← show i = o by omega, if_pos V]
  | succ d ih =>
    intro i e V
    have hri := hr i (by omega)
    obtain ⟨e14, h14b⟩ := h14 i (by omega)
    rw [t_qm_isPlugRow_4, if_pos (nI_lt (by omega) (by omega)), zif_n (by omega) (by omega), ztnn (by omega), h15 i (by omega), p_isOf (by omega), zkI_s, zif_n (by omega) (by omega), zif_n (by omega) (by omega), h15 i (by omega), e14, p_couldPlug G (by omega) h14b, zkI_s, zif_n (by omega) (by omega), h15 i (by omega), nI_1, bt_mk i (r i) (fun j hj => by have := hr j (by omega); omega) (by omega)]
    have last : zvl (I 10) op r (i + 1) = false → zvl (I 10) op r o = false := fun h => by
      have := zvl_le (S := I 10) (op := op) (r := r) d h
      rw [show i + 1 + d = o by omega] at this
      exact this
    by_cases q1 : zud r i (r i) = true
    · rw [if_pos q1, if_neg z10, if_neg]
      rw [last]
      · decide
      · show (zvl (I 10) op r i && !zud r i (r i) && _) = false
        rw [q1]
        simp
    · rw [if_neg q1, if_pos rfl]
      by_cases q2 : zft (I 10) (r i) (op i) = true
      · rw [if_pos q2, if_neg z10]
        refine ih (i + 1) (by omega) ?_
        show (zvl (I 10) op r i && !zud r i (r i) && zft (I 10) (r i) (op i)) = true
        rw [V, Bool.eq_false_iff.mpr q1, q2]
        rfl
      · rw [if_neg q2, if_pos rfl, if_neg]
        rw [last]
        · decide
        · show (zvl (I 10) op r i && !zud r i (r i) && zft (I 10) (r i) (op i)) = false
          rw [Bool.eq_false_iff.mpr q2, Bool.and_false]
theorem p_plugWorthL {nb nk ns nr nh o : Nat} {I : zTI} {J : zTJ} {r : Nat → Nat} (N : zNs nb nk ns nr nh) (O : zOK nb nk ns nr nh (I 10)) (ho : o ≤ 4) (h15 : ∀ i, i < o → I 15 i = nI (r i)) (hr : ∀ i, i < o → r i < nk) : ∀ d i, i + d = o → qm_plugWorth_4 (nI o) (nI (zpwt (I 10) r i)) (nI i) I J = some (some (.int (nI (zpwt (I 10) r o))), (zSM, I, J)) := by
  have n1 := N.2.1
  intro d
  induction d with
  | zero =>
    intro i e
    rw [t_qm_plugWorth_4, if_neg (fun q => by have := (nI_ltI (by omega) (by omega)).mp q; omega), ← show i = o by omega]
  | succ d ih =>
    intro i e
    have hri := hr i (by omega)
    rw [t_qm_plugWorth_4, if_pos (nI_lt (by omega) (by omega)), zif_n (by omega) (by omega), ztnn (by omega), h15 i (by omega), pb1 (by omega), zkI_s, (zwN_e N O hri).1, nI_add, nI_1, ← zpwt_s]
    exact ih (i + 1) (by omega)
def zE4 (S : Nat → Int32) (o : Nat) : Option (Nat → Nat) → Int32
  | none => -2
  | some r => nI (zpwt S r o)
def zMs (o : Nat) (s : Option (Nat → Nat)) (I : zTI) : Prop := match s with
  | none => True
  | some r => ∀ i, i < o → I 16 i = nI (r i)
theorem p_pl157 {J : zTJ} {x2 x4 : Int32} {o : Nat} {r : Nat → Nat} (ho : o ≤ 4) : ∀ (d i : Nat) (I : zTI), i + d = o → (∀ i, i < o → I 15 i = nI (r i)) → (∀ j, j < i → I 16 j = nI (r j)) → ∃ I1, qm_plugs_157 x2 (nI o) x4 (nI i) I J = zkI (qm_nextPlugRow_4 (nI o - 1) I1 J) zSM (fun r3 I1 J2 => qm_plugs_119 x2 (nI o) x4 r3 I1 J2) ∧ (∀ i, i ≠ 16 → I1 i = I i) ∧ (∀ i, i < o → I1 16 i = nI (r i)) := by
  intro d
  induction d with
  | zero =>
    intro i I e h15 h16
    rw [t_qm_plugs_157, if_neg (fun q => by have := (nI_ltI (by omega) (by omega)).mp q; omega), t_qm_nextPlugRow]
    exact ⟨I, rfl, fun _ _ => rfl, fun j hj => h16 j (by omega)⟩
  | succ d ih =>
    intro i I e h15 h16
    rw [t_qm_plugs_157, if_pos (nI_lt (by omega) (by omega)), zif_n (by omega) (by omega), zif_n (by omega) (by omega), ztnn (by omega), h15 i (by omega), nI_1, zsI_zrI]
    obtain ⟨I1, f1, f2, f3⟩ := ih (i + 1) (zrI I 16 (upd (I 16) i (nI (r i)))) (by omega) (fun j hj => by rw [zrI_ne _ _ (by decide)]; exact h15 j hj) (fun j hj => by
      rw [zrI_row]
      by_cases q : j = i
      · subst q
        rw [u_at]
      · rw [u_no q]
        exact h16 j (by omega))
    exact ⟨I1, f1, fun k hk => by rw [f2 k hk, zrI_ne _ _ hk], f3⟩
set_option maxHeartbeats 4000000 in
theorem p_plM {nb nk ns nr nh o : Nat} {J : zTJ} {C S : Nat → Int32} {x2 : Int32} {op : Nat → Nat} (G : zGood nb nk ns nr nh C S) (ho : o ≤ 4) :
    ∀ (n : Nat) (r : Nat → Nat) (s : Option (Nat → Nat)) (I : zTI), n ≤ o → 0 < nk → I 10 = S → (∀ i, i < o → I 14 i = nI (op i) ∧ op i < nh) → (∀ i, i < o → I 15 i = nI (r i)) → (∀ i, i < o → r i < nk) → (∀ i, o - n ≤ i → i < o → r i = 0) → zMs o s I → (∀ q, s = some q → zpwt S q o ≤ 396) → ∃ I1, qm_plugs_119 x2 (nI o) (zE4 S o s) 1 I J = zkI (qm_nextPlugRow_4 (nI (o - n) - 1) I1 J) zSM (fun r' I2 J2 => qm_plugs_119 x2 (nI o) (zE4 S o (zen (zpst S op o) nk o n r s)) r' I2 J2) ∧ (∀ i, i ≠ 15 → i ≠ 16 → I1 i = I i) ∧ (∀ i, i < o → I1 15 i = nI (r i)) ∧ zMs o (zen (zpst S op o) nk o n r s) I1 ∧ (∀ q, zen (zpst S op o) nk o n r s = some q → zpwt S q o ≤ 396) := by
  have n1 := G.1.ns.2.1
  have wle : ∀ (r : Nat → Nat) m, m ≤ 4 → (∀ i, i < m → r i < nk) → zpwt S r m ≤ 396 := fun r m hm hr => by
    have := zsN_le (f := fun i => zwN S (r i)) (p := fun _ => true) (c := 99) m (fun i hi => (zwN_e G.1.ns G.2.1 (hr i hi)).2)
    unfold zpwt
    omega
  intro n
  induction n with
  | zero =>
    intro r s I hn hk eS h14 h15 hr hz hM hs
    subst eS
    have hw := wle r o ho hr
    show ∃ I1, _ = zkI (qm_nextPlugRow_4 (nI (o - 0) - 1) I1 J) zSM (fun r' I2 J2 => qm_plugs_119 x2 (nI o) (zE4 (I 10) o (zpst (I 10) op o s r)) r' I2 J2) ∧ _ ∧ _ ∧ zMs o (zpst (I 10) op o s r) I1 ∧ (∀ q, zpst (I 10) op o s r = some q → _)
    rw [t_qm_plugs_119, if_neg z10, t_qm_isPlugRow, show qm_isPlugRow_4 (nI o) 0 0 I J = _ from p_plugRowL G ho h14 h15 hr o 0 (by omega) rfl, zkI_s, Nat.sub_zero]
    unfold zpst
    by_cases V : zvl (I 10) op r o = true
    · rw [if_pos V, if_neg z10, if_pos V, t_qm_plugWorth, show qm_plugWorth_4 (nI o) 0 0 I J = _ from p_plugWorthL G.1.ns G.2.1 ho h15 hr o 0 (by omega), zkI_s, zkI_s]
      obtain ⟨I1, f1, f2, f3⟩ := p_pl157 (J := J) (x2 := x2) (x4 := nI (zpwt (I 10) r o)) ho o 0 I (by omega) h15 (fun j hj => absurd hj (by omega))
      have take : ∃ I1, qm_plugs_157 x2 (nI o) (nI (zpwt (I 10) r o)) 0 I J = zkI (qm_nextPlugRow_4 (nI o - 1) I1 J) zSM (fun r' I2 J2 => qm_plugs_119 x2 (nI o) (zE4 (I 10) o (some r)) r' I2 J2) ∧ (∀ i, i ≠ 15 → i ≠ 16 → I1 i = I i) ∧ (∀ i, i < o → I1 15 i = nI (r i)) ∧ zMs o (some r) I1 ∧ (∀ q, some r = some q → zpwt (I 10) q o ≤ 396) := ⟨I1, f1, fun i _ h => f2 i h, fun i hi => by rw [f2 15 (by decide)]; exact h15 i hi, f3, fun q hq => by cases hq; exact hw⟩
      cases s with
      | none =>
        rw [show zE4 (I 10) o none = -2 from rfl, if_pos (show (-2 : Int32) < 0 by decide)]
        exact take
      | some q =>
        have hq := hs q rfl
        rw [show zE4 (I 10) o (some q) = nI (zpwt (I 10) q o) from rfl, if_neg (znn (by omega)), t_qm_plugWorth, show qm_plugWorth_4 (nI o) 0 0 I J = _ from p_plugWorthL G.1.ns G.2.1 ho h15 hr o 0 (by omega), zkI_s, t_qm_nextPlugRow]
        by_cases hp : zpwt (I 10) r o < zpwt (I 10) q o
        · rw [if_pos (nI_lt hp (by omega))]
          show ∃ I1, _ = zkI (qm_nextPlugRow_4 (nI o - 1) I1 J) zSM (fun r' I2 J2 => qm_plugs_119 x2 (nI o) (zE4 (I 10) o (if zpwt (I 10) r o < zpwt (I 10) q o then some r else some q)) r' I2 J2) ∧ _ ∧ _ ∧ zMs o (if zpwt (I 10) r o < zpwt (I 10) q o then some r else some q) I1 ∧ (∀ q', (if zpwt (I 10) r o < zpwt (I 10) q o then some r else some q) = some q' → _)
          rw [if_pos hp]
          exact take
        · rw [if_neg (fun h => hp ((nI_ltI (by omega) (by omega)).mp h))]
          show ∃ I1, _ = zkI (qm_nextPlugRow_4 (nI o - 1) I1 J) zSM (fun r' I2 J2 => qm_plugs_119 x2 (nI o) (zE4 (I 10) o (if zpwt (I 10) r o < zpwt (I 10) q o then some r else some q)) r' I2 J2) ∧ _ ∧ _ ∧ zMs o (if zpwt (I 10) r o < zpwt (I 10) q o then some r else some q) I1 ∧ (∀ q', (if zpwt (I 10) r o < zpwt (I 10) q o then some r else some q) = some q' → _)
          rw [if_neg hp]
          exact ⟨I, rfl, fun _ _ _ => rfl, h15, hM, hs⟩
    · rw [if_neg V, if_pos rfl, if_neg V, t_qm_nextPlugRow]
      exact ⟨I, rfl, fun _ _ _ => rfl, h15, hM, hs⟩
  | succ n ih =>
    intro r s I hn hk eS h14 h15 hr hz hM hs
    have loop : ∀ (d k : Nat) (s : Option (Nat → Nat)) (I : zTI), k + d + 1 = nk → I 10 = S → (∀ i, i < o → I 14 i = nI (op i) ∧ op i < nh) → (∀ i, i < o → I 15 i = nI (zup1 r (o - (n + 1)) k i)) → zMs o s I → (∀ q, s = some q → zpwt S q o ≤ 396) → ∃ I1, qm_plugs_119 x2 (nI o) (zE4 S o s) 1 I J = zkI (qm_nextPlugRow_4 (nI (o - (n + 1)) - 1) I1 J) zSM (fun r' I2 J2 => qm_plugs_119 x2 (nI o) (zE4 S o (zfo (fun s k => zen (zpst S op o) nk o n (zup1 r (o - (n + 1)) k) s) k (d + 1) s)) r' I2 J2) ∧ (∀ i, i ≠ 15 → i ≠ 16 → I1 i = I i) ∧ (∀ i, i < o → I1 15 i = nI (r i)) ∧ zMs o (zfo (fun s k => zen (zpst S op o) nk o n (zup1 r (o - (n + 1)) k) s) k (d + 1) s) I1 ∧ (∀ q, zfo (fun s k => zen (zpst S op o) nk o n (zup1 r (o - (n + 1)) k) s) k (d + 1) s = some q → zpwt S q o ≤ 396) := by
      intro d
      induction d with
      | zero =>
        intro k s I ek eS h14 h15 hM hs
        obtain ⟨I1, f1, f2, f3, f4, f5⟩ := ih (zup1 r (o - (n + 1)) k) s I (by omega) hk eS h14 h15 (fun i hi => by
          unfold zup1
          split
          · omega
          · exact hr i hi) (fun i h1 h2 => by rw [zup1_no (by omega)]; exact hz i (by omega) h2) hM hs
        have e1 : nI (o - n) - 1 = nI (o - (n + 1)) := by
          rw [show o - n = (o - (n + 1)) + 1 by omega, ← nI_1]
          exact Int32.add_sub_cancel _ _
        have e0 : zfo (fun s k => zen (zpst S op o) nk o n (zup1 r (o - (n + 1)) k) s) k (0 + 1) s = zen (zpst S op o) nk o n (zup1 r (o - (n + 1)) k) s := by
          rfl
        rw [e0, f1, e1, t_qm_nextPlugRow_4, if_neg (znn (by omega)), zif_n (by omega) (by omega), zif_n (by omega) (by omega), zif_n (by omega) (by omega), ztnn (by omega), zsI_at, f3 _ (by omega), zup1_at, nI_1, if_neg (by rw [f2 10 (by decide) (by decide), eS, G.1.2.1.2.1]; exact fun h => by have := (nI_ltI (by omega) (by omega)).mp h; omega), zif_n (by omega) (by omega), show nI (o - (n + 1)) + (-1) = nI (o - (n + 1)) - 1 from (Int32.sub_eq_add_neg _ _).symm]
        refine ⟨_, rfl, fun i a b => ?_, fun i hi => ?_, ?_, f5⟩
        · rw [zsI_ne _ _ _ a, zsI_ne _ _ _ a, f2 i a b]
        · by_cases q : i = o - (n + 1)
          · subst q
            rw [zsI_at, hz (o - (n + 1)) (by omega) hi]
            rfl
          · rw [zsI_no _ _ _ q, zsI_no _ _ _ q, f3 i hi, zup1_no q]
        · unfold zMs at f4 ⊢
          cases hc : zen (zpst S op o) nk o n (zup1 r (o - (n + 1)) k) s with
          | none => trivial
          | some q =>
            rw [hc] at f4
            intro i hi
            rw [zsI_ne _ _ _ (by decide), zsI_ne _ _ _ (by decide)]
            exact f4 i hi
      | succ d ihd =>
        intro k s I ek eS h14 h15 hM hs
        obtain ⟨I1, f1, f2, f3, f4, f5⟩ := ih (zup1 r (o - (n + 1)) k) s I (by omega) hk eS h14 h15 (fun i hi => by
          unfold zup1
          split
          · omega
          · exact hr i hi) (fun i h1 h2 => by rw [zup1_no (by omega)]; exact hz i (by omega) h2) hM hs
        have e1 : nI (o - n) - 1 = nI (o - (n + 1)) := by
          rw [show o - n = (o - (n + 1)) + 1 by omega, ← nI_1]
          exact Int32.add_sub_cancel _ _
        rw [f1, e1, t_qm_nextPlugRow_4, if_neg (znn (by omega)), zif_n (by omega) (by omega), zif_n (by omega) (by omega), zif_n (by omega) (by omega), ztnn (by omega), zsI_at, f3 _ (by omega), zup1_at, nI_1, if_pos (by rw [f2 10 (by decide) (by decide), eS, G.1.2.1.2.1]; exact nI_lt (by omega) (by omega)), zkI_s]
        have i10 : ∀ i, i ≠ 15 → i ≠ 16 → (zsI I1 15 (o - (n + 1)) (nI (k + 1))) i = I i := fun i a b => by rw [zsI_ne _ _ _ a, f2 i a b]
        obtain ⟨I2, g1, g2, g3, g4, g5⟩ := ihd (k + 1) (zen (zpst S op o) nk o n (zup1 r (o - (n + 1)) k) s) (zsI I1 15 (o - (n + 1)) (nI (k + 1))) (by omega) (by rw [i10 10 (by decide) (by decide), eS]) (fun i hi => by rw [i10 14 (by decide) (by decide)]; exact h14 i hi) (fun i hi => by
          by_cases q : i = o - (n + 1)
          · subst q
            rw [zsI_at, zup1_at]
          · rw [zsI_no _ _ _ q, f3 i hi, zup1_no q, zup1_no q]) (by
          unfold zMs at f4 ⊢
          cases hc : zen (zpst S op o) nk o n (zup1 r (o - (n + 1)) k) s with
          | none => trivial
          | some q =>
            rw [hc] at f4
            intro i hi
            rw [zsI_ne _ _ _ (by decide)]
            exact f4 i hi) f5
        have e2 : zfo (fun s k => zen (zpst S op o) nk o n (zup1 r (o - (n + 1)) k) s) k (d + 1 + 1) s = zfo (fun s k => zen (zpst S op o) nk o n (zup1 r (o - (n + 1)) k) s) (k + 1) (d + 1) (zen (zpst S op o) nk o n (zup1 r (o - (n + 1)) k) s) := by
          rw [show d + 1 + 1 = 1 + (d + 1) by omega, zfo_add]
          rfl
        rw [e2]
        exact ⟨I2, g1, fun i a b => by rw [g2 i a b, i10 i a b], g3, g4, g5⟩
    have e0 : ∀ i, i < o → I 15 i = nI (zup1 r (o - (n + 1)) 0 i) := fun i hi => by
      rw [h15 i hi]
      by_cases q : i = o - (n + 1)
      · subst q
        rw [zup1_at, hz _ (by omega) hi]
      · rw [zup1_no q]
    obtain ⟨I1, f1, f2, f3, f4, f5⟩ := loop (nk - 1) 0 s I (by omega) eS h14 e0 hM hs
    rw [show nk - 1 + 1 = nk by omega] at f1 f4 f5
    exact ⟨I1, f1, f2, f3, f4, f5⟩
