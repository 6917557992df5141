/-! ===== words of a book and a barge ===== -/
def zkE : Option Nat → Int32
  | none => -1
  | some r => nI r
def zkM (S : Nat → Int32) (k : Nat) : Option Nat → Int32
  | none => 0
  | some r => S (174 + 12 * r + k)
set_option maxHeartbeats 2000000 in
theorem p_keen {w c : Nat} (hwc : zwc w c) {nb nk ns nr nh k : Nat} {σ : zSg} {I I' : zTI} {J J' : zTJ} {x : Int32} (G : zGood nb nk ns nr nh (I c) (I' 10)) (hk : k < nk) : ∀ (m r : Nat) (o : Option Nat), r + m = nr → (∀ r', o = some r' → r' < nr) → ∃ o', qw_keenestReader_8 w (nI k) x (zkE o) (zkM (I' 10) k o) (nI r) σ I J = some (some (.int (zkE o')), (zSC σ, I, J)) ∧ qm_bestReader_5 (nI k) x (zkE o) (nI r) I' J' = some (some (.int (zkE o')), (zSM, I', J')) ∧ (∀ r', o' = some r' → r' < nr) := by
  obtain ⟨⟨n0, n1, n2, n3, n4⟩, ⟨s0, s1, s2, s3, s4⟩, ⟨c0, c1, c2, c3, c4⟩, cD, hB, hK, -, hR, -⟩ := id G.1
  intro m
  induction m with
  | zero =>
    intro r o er ho
    have hno : ¬ nI r < nI nr := fun h => by have := (nI_ltI (by omega) (by omega)).mp h; omega
    rw [t_qw_keenestReader_8 w _ _ _ _ _ c hwc, c3, if_neg hno, t_qm_bestReader_5, s3, if_neg hno]
    exact ⟨o, rfl, rfl, ho⟩
  | succ m ih =>
    intro r o er ho
    have hr : r < nr := by omega
    obtain ⟨r0, -, -, r3, -, rw_⟩ := hR r hr
    have e1 : ((171 : Int32) + nI r * 12) + nI k = nI (171 + (12 * r + k)) := by
      rw [show nI r * 12 = nI (12 * r) from by rw [Nat.mul_comm]; exact (Int32.ofNat_mul r 12).symm, show (171 : Int32) + nI (12 * r) = nI (171 + 12 * r) from nI_add 171 _, nI_add, Nat.add_assoc]
    have keep : ∃ o', qw_keenestReader_8 w (nI k) x (zkE o) (zkM (I' 10) k o) (nI (r + 1)) σ I J = some (some (.int (zkE o')), (zSC σ, I, J)) ∧ qm_bestReader_5 (nI k) x (zkE o) (nI (r + 1)) I' J' = some (some (.int (zkE o')), (zSM, I', J')) ∧ (∀ r', o' = some r' → r' < nr) := ih (r + 1) o (by omega) ho
    have take : ∃ o', qw_keenestReader_8 w (nI k) x (nI r) (I' 10 (174 + 12 * r + k)) (nI (r + 1)) σ I J = some (some (.int (zkE o')), (zSC σ, I, J)) ∧ qm_bestReader_5 (nI k) x (nI r) (nI (r + 1)) I' J' = some (some (.int (zkE o')), (zSM, I', J')) ∧ (∀ r', o' = some r' → r' < nr) := ih (r + 1) (some r) (by omega) (fun r' h => by cases h; exact hr)
    rw [t_qw_keenestReader_8 w _ _ _ _ _ c hwc, c3, if_pos (nI_lt hr (by omega)), r1Book hwc c1 n1 hk, zkI_s, if_neg z10, e1, zif_n (by omega) (by omega), ztnn (by omega), rw_ k (by omega), zy153, zif_n (by omega) (by omega), ztnn (by omega), r0, zy11, zif_n (by omega) (by omega), ztnn (by omega), r3, nI_1, t_qm_bestReader_5, s3, if_pos (nI_lt hr (by omega)), pr0 (by omega), zkI_s, nI_1]
    have hhas : I' 10 (144 + 5 * r + 3) = -1 ↔ I' 10 (144 + 5 * r + 3) < 0 := by
      rcases zk_r3 G.1.ns G.2.1 hr with h | ⟨d, hd, h⟩
      · rw [h]
        decide
      · rw [h]
        exact ⟨fun e => absurd e (znm (by omega)), fun e => absurd e (znn (by omega))⟩
    by_cases q1 : I' 10 (144 + 5 * r + 0) = x
    · rw [if_pos q1, if_pos q1, pr3 (by omega), zkI_s]
      by_cases q2 : I' 10 (144 + 5 * r + 3) = -1
      · rw [if_pos q2, if_pos (hhas.mp q2), pw_ (by omega) (by omega), zkI_s]
        cases o with
        | none =>
          rw [show zkE none = -1 from rfl, if_pos (show (-1 : Int32) < 0 by decide), show zkM (I' 10) k none = 0 from rfl]
          by_cases q3 : (0 : Int32) < I' 10 (174 + 12 * r + k)
          · rw [if_pos q3, if_pos q3]
            exact take
          · rw [if_neg q3, if_neg q3]
            exact keep
        | some r' =>
          have hr' := ho r' rfl
          rw [show zkE (some r') = nI r' from rfl, if_neg (znn (by omega)), pw_ (by omega) (by omega), zkI_s, show zkM (I' 10) k (some r') = I' 10 (174 + 12 * r' + k) from rfl]
          by_cases q3 : I' 10 (174 + 12 * r' + k) < I' 10 (174 + 12 * r + k)
          · rw [if_pos q3, if_pos q3]
            exact take
          · rw [if_neg q3, if_neg q3]
            exact keep
      · rw [if_neg q2, if_neg (fun h => q2 (hhas.mpr h))]
        split
        · exact keep
        · exact keep
    · rw [if_neg q1, if_neg q1]
      split
      · exact keep
      · exact keep
/-- a book's words, a barge's words -/
def zwK (S : Nat → Int32) (k : Nat) (o : Option Nat) (j : Nat) : Int64 := if j = 0 then (nI k).toInt64 else if j = 1 then (zhv S k).toInt64 else if j = 2 then (S (20 + 7 * k + 3)).toInt64 else if j = 3 then (S (20 + 7 * k + 1)).toInt64 else if j = 4 then (S (20 + 7 * k + 2)).toInt64 else if j = 5 then (zkM S k o).toInt64 else (S (20 + 7 * k + 5)).toInt64
def zwB (C S : Nat → Int32) (nk ns dy b a : Nat) (j : Nat) : Int64 := if j = 6 then (nI a).toInt64 else if j = 7 then ((if a + 1 < ns then zde C dy (a + 1) else 0) : Int32).toInt64 else if j = 8 then (zdrB S nk b (zset (zab S b) nk)).toInt64 else if j = 9 then (S (6 + 7 * b + 4)).toInt64 else (S 5).toInt64
def zwQ (j : Nat) : Prop := j = 6 ∨ j = 7 ∨ j = 8 ∨ j = 9 ∨ j = 11
set_option maxHeartbeats 2000000 in
theorem p_tellBarge {w c q : Nat} (hwc : zwc w c) {ρ : (Nat → Option Nat) × (Nat → Option Nat) × List zE} {nb nk ns nr nh b a dy : Nat} {I : zTI} {J : zTJ} {S : Nat → Int32} (G : zGood nb nk ns nr nh (I c) S) (hb : b < nb) (eb : I 15 4 = nI b) (ea : S (6 + 7 * b + 5) = nI a) (ha : a < ns) (hdy : dy ≤ 9999) (edy : S 5 = nI dy) : ∃ J1, qj_tellBarge (some w, some q, ρ) I J = some (none, (zSC (some w, some q, ρ), I, J1)) ∧ (∀ r, r ≠ 18 → J1 r = J r) ∧ (∀ j, zwQ j → J1 18 j = zwB (I c) S nk ns dy b a j) ∧ (∀ j, ¬ zwQ j → J1 18 j = J 18 j) := by
  obtain ⟨⟨n0, n1, n2, n3, n4⟩, -, ⟨c0, c1, c2, c3, c4⟩, cD, hB, hK, -, hR, -⟩ := id G.1
  obtain ⟨-, -, -, -, b4, b5, -⟩ := hB b hb
  have here : ∀ J, qj_here (some w, some q, ρ) I J = some (some (.int (nI a)), (zSC (some w, some q, ρ), I, J)) := fun J => by
    rw [t_qj_here w c q hwc, eb, pc1 hwc (by omega), zkI_s, b5, ea]
  have dep : ∀ J, qw_depthOf w (nI (a + 1)) (some w, some q, ρ) I J = some (some (.int (if a + 1 < ns then zde (I c) dy (a + 1) else 0)), (zSC (some w, some q, ρ), I, J)) := fun J => by
    by_cases h : a + 1 < ns
    · rw [if_pos h, p_depW hwc G hdy edy h]
    · rw [if_neg h, t_qw_depthOf w _ c hwc, r0Stop hwc c2 (Or.inr ⟨znn (by omega), fun h' => h ((nI_ltI (by omega) (by omega)).mp h')⟩), zkI_s, if_pos rfl]
  rw [t_qj_tellBarge w c q hwc, here, zkI_s, here, zkI_s, nI_1, dep, zkI_s, eb, p_draughtG hwc G hb, zkI_s, eb, pc3 hwc (by omega), zkI_s, b4, pc0 hwc, zkI_s, cD]
  refine ⟨_, rfl, fun r hr => ?_, fun j hj => ?_, fun j hj => ?_⟩
  · rw [zsJ_ne _ _ _ hr, zsJ_ne _ _ _ hr, zsJ_ne _ _ _ hr, zsJ_ne _ _ _ hr, zsJ_ne _ _ _ hr]
  · rcases hj with rfl | rfl | rfl | rfl | rfl
    · rw [zsJ_no _ _ _ (by decide), zsJ_no _ _ _ (by decide), zsJ_no _ _ _ (by decide), zsJ_no _ _ _ (by decide), zsJ_at]; rfl
    · rw [zsJ_no _ _ _ (by decide), zsJ_no _ _ _ (by decide), zsJ_no _ _ _ (by decide), zsJ_at]; rfl
    · rw [zsJ_no _ _ _ (by decide), zsJ_no _ _ _ (by decide), zsJ_at]; rfl
    · rw [zsJ_no _ _ _ (by decide), zsJ_at]; rfl
    · rw [zsJ_at]; rfl
  · unfold zwQ at hj
    rw [zsJ_no _ _ _ (by omega), zsJ_no _ _ _ (by omega), zsJ_no _ _ _ (by omega), zsJ_no _ _ _ (by omega), zsJ_no _ _ _ (by omega)]
set_option maxHeartbeats 4000000 in
theorem p_tellBook {w c q : Nat} (hwc : zwc w c) {ρ : (Nat → Option Nat) × (Nat → Option Nat) × List zE} {nb nk ns nr nh b k a : Nat} {I I' : zTI} {J J' : zTJ} (G : zGood nb nk ns nr nh (I c) (I' 10)) (hb : b < nb) (hk : k < nk) (eb : I 15 4 = nI b) (ea : I' 10 (6 + 7 * b + 5) = nI a) : ∃ o J1, qj_tellBook (nI k) (some w, some q, ρ) I J = some (none, (zSC (some w, some q, ρ), zsI I 15 5 (zkE o), J1)) ∧ (∀ J', qm_bestReader (nI k) (nI a) I' J' = some (some (.int (zkE o)), (zSM, I', J'))) ∧ (∀ r', o = some r' → r' < nr) ∧ (∀ r, r ≠ 18 → J1 r = J r) ∧ (∀ j, j < 12 → ¬ zwQ j → J1 18 j = zwK (I' 10) k o j) ∧ (∀ j, zwQ j → J1 18 j = J 18 j) := by
  obtain ⟨⟨n0, n1, n2, n3, n4⟩, -, ⟨c0, c1, c2, c3, c4⟩, cD, hB, hK, -, hR, -⟩ := id G.1
  obtain ⟨-, -, -, -, b4, b5, -⟩ := hB b hb
  obtain ⟨k0, k1, k2, k3, k4, k5, k6⟩ := hK k hk
  have here : ∀ J, qj_here (some w, some q, ρ) I J = some (some (.int (nI a)), (zSC (some w, some q, ρ), I, J)) := fun J => by
    rw [t_qj_here w c q hwc, eb, pc1 hwc (by omega), zkI_s, b5, ea]
  have hhv : I c (97 + k) + I c (35 + k) = zhv (I' 10) k := by
    unfold zhv
    rw [k0, k2]
  rw [t_qj_tellBook _ w c q hwc, p_heavyW hwc (by omega), zkI_s, pc23 hwc (by omega), zkI_s, pc109 hwc (by omega), zkI_s, pc35 hwc (by omega), zkI_s, pc59 hwc (by omega), zkI_s, here, zkI_s, t_qw_keenestReader w _ _ c hwc, hhv, k1, k2, k3, k5]
  generalize hJ : zsJ (zsJ (zsJ (zsJ (zsJ (zsJ J 18 0 (nI k).toInt64) 18 1 (zhv (I' 10) k).toInt64) 18 2 (I' 10 (20 + 7 * k + 3)).toInt64) 18 3 (I' 10 (20 + 7 * k + 1)).toInt64) 18 4 (I' 10 (20 + 7 * k + 2)).toInt64) 18 10 (I' 10 (20 + 7 * k + 5)).toInt64 = J2
  have kn : ∃ o', qw_keenestReader_8 w (nI k) (nI a) (-1) 0 0 (some w, some q, ρ) I J2 = some (some (.int (zkE o')), (zSC (some w, some q, ρ), I, J2)) ∧ (∀ J', qm_bestReader_5 (nI k) (nI a) (-1) 0 I' J' = some (some (.int (zkE o')), (zSM, I', J'))) ∧ (∀ r', o' = some r' → r' < nr) := by
    obtain ⟨o, f1, f2, f3⟩ := p_keen hwc (σ := (some w, some q, ρ)) (J := J2) (J' := J') (x := nI a) G hk nr 0 none (by omega) (fun r' h => by cases h)
    refine ⟨o, f1, fun J'' => ?_, f3⟩
    obtain ⟨o2, g1, g2, g3⟩ := p_keen hwc (σ := (some w, some q, ρ)) (J := J2) (J' := J'') (x := nI a) G hk nr 0 none (by omega) (fun r' h => by cases h)
    have e : zkE o2 = zkE o := by
      have := f1.symm.trans g1
      have := Option.some.inj this
      have := (Prod.mk.inj this).1
      have := Option.some.inj this
      exact (Value.int.inj this).symm
    rw [← e]
    exact g2
  obtain ⟨o, f1, f2, f3⟩ := kn
  have w5 : ∀ v : Int64, v = (zkM (I' 10) k o).toInt64 → (∀ r, r ≠ 18 → (zsJ J2 18 5 v) r = J r) ∧ (∀ j, j < 12 → ¬ zwQ j → (zsJ J2 18 5 v) 18 j = zwK (I' 10) k o j) ∧ (∀ j, zwQ j → (zsJ J2 18 5 v) 18 j = J 18 j) := by
    intro v hv
    refine ⟨fun r hr => ?_, fun j hj hq => ?_, fun j hj => ?_⟩
    · rw [zsJ_ne _ _ _ hr, ← hJ, zsJ_ne _ _ _ hr, zsJ_ne _ _ _ hr, zsJ_ne _ _ _ hr, zsJ_ne _ _ _ hr, zsJ_ne _ _ _ hr, zsJ_ne _ _ _ hr]
    · unfold zwQ at hq
      rcases (show j = 0 ∨ j = 1 ∨ j = 2 ∨ j = 3 ∨ j = 4 ∨ j = 5 ∨ j = 10 by omega) with rfl | rfl | rfl | rfl | rfl | rfl | rfl
      · rw [zsJ_no _ _ _ (by decide), ← hJ, zsJ_no _ _ _ (by decide), zsJ_no _ _ _ (by decide), zsJ_no _ _ _ (by decide), zsJ_no _ _ _ (by decide), zsJ_no _ _ _ (by decide), zsJ_at]; rfl
      · rw [zsJ_no _ _ _ (by decide), ← hJ, zsJ_no _ _ _ (by decide), zsJ_no _ _ _ (by decide), zsJ_no _ _ _ (by decide), zsJ_no _ _ _ (by decide), zsJ_at]; rfl
      · rw [zsJ_no _ _ _ (by decide), ← hJ, zsJ_no _ _ _ (by decide), zsJ_no _ _ _ (by decide), zsJ_no _ _ _ (by decide), zsJ_at]; rfl
      · rw [zsJ_no _ _ _ (by decide), ← hJ, zsJ_no _ _ _ (by decide), zsJ_no _ _ _ (by decide), zsJ_at]; rfl
      · rw [zsJ_no _ _ _ (by decide), ← hJ, zsJ_no _ _ _ (by decide), zsJ_at]; rfl
      · rw [zsJ_at, hv]; rfl
      · rw [zsJ_no _ _ _ (by decide), ← hJ, zsJ_at]; rfl
    · unfold zwQ at hj
      rw [zsJ_no _ _ _ (by omega), ← hJ, zsJ_no _ _ _ (by omega), zsJ_no _ _ _ (by omega), zsJ_no _ _ _ (by omega), zsJ_no _ _ _ (by omega), zsJ_no _ _ _ (by omega), zsJ_no _ _ _ (by omega)]
  have bm : ∀ J', qm_bestReader (nI k) (nI a) I' J' = some (some (.int (zkE o)), (zSM, I', J')) := fun J' => by
    rw [t_qm_bestReader]
    exact f2 J'
  rw [f1, zkI_s]
  cases o with
  | none =>
    rw [show zkE none = -1 from rfl, if_pos rfl]
    obtain ⟨a1, a2, a3⟩ := w5 0 rfl
    exact ⟨none, _, rfl, bm, f3, a1, a2, a3⟩
  | some r =>
    have hr := f3 r rfl
    rw [show zkE (some r) = nI r from rfl, if_neg (znm (by omega)), p_coins hwc (by omega) (by omega), zkI_s, zsI_ne _ _ _ (by rcases hwc with ⟨-, h⟩ | ⟨-, h⟩ | ⟨-, h⟩ <;> omega), (hR r hr).2.2.2.2.2 k (by omega)]
    obtain ⟨a1, a2, a3⟩ := w5 (I' 10 (174 + 12 * r + k)).toInt64 rfl
    exact ⟨some r, _, rfl, bm, f3, a1, a2, a3⟩
