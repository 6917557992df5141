/-! ===== plugs: both ===== -/
def znd (S : Nat → Int32) (nh b h : Nat) : Bool := decide (h < nh) && decide (S (246 + 3 * h + 0) = nI b) && !decide (S (246 + 3 * h + 2) = 1)
theorem zcnt_ex {p : Nat → Bool} {i : Nat} : ∀ n, i < zcnt p n → ∃ h, h < n ∧ p h = true ∧ zcnt p h = i
  | 0, h => absurd h (by unfold zcnt; omega)
  | n + 1, h => by
    by_cases q : p n = true
    · rw [zcnt_s q] at h
      by_cases e : i = zcnt p n
      · exact ⟨n, by omega, q, e.symm⟩
      · obtain ⟨h', a, b, c⟩ := zcnt_ex n (show i < zcnt p n by omega)
        exact ⟨h', by omega, b, c⟩
    · rw [zcnt_n q] at h
      obtain ⟨h', a, b, c⟩ := zcnt_ex n h
      exact ⟨h', by omega, b, c⟩
theorem znd_4 {S : Nat → Int32} {nh b : Nat} (hn : nh ≤ 4) : zcnt (znd S nh b) 4 = zcnt (znd S nh b) nh := by
  have h : ∀ d, zcnt (znd S nh b) (nh + d) = zcnt (znd S nh b) nh := by
    intro d
    induction d with
    | zero => rfl
    | succ d ih =>
      rw [← Nat.add_assoc, zcnt_n, ih]
      unfold znd
      rw [decide_eq_false (show ¬ nh + d < nh by omega), Bool.false_and, Bool.false_and]
      decide
  have := h (4 - nh)
  rw [show nh + (4 - nh) = 4 by omega] at this
  exact this
theorem p_pl27 {nb nk ns nr nh b : Nat} {J : zTJ} {C S : Nat → Int32} {x2 : Int32} (G : zGood nb nk ns nr nh C S) (hb : b < nb) : ∀ (d h : Nat) (I : zTI), h + d = nh → I 10 = S → (∀ h', h' < h → znd S nh b h' = true → I 14 (zcnt (znd S nh b) h') = nI h') → (∀ i, i < zcnt (znd S nh b) h → I 15 i = 0) → ∃ I1, qm_plugs_27 (nI b) x2 (nI (zcnt (znd S nh b) h)) (nI h) I J = qm_plugs_27 (nI b) x2 (nI (zcnt (znd S nh b) nh)) (nI nh) I1 J ∧ (∀ i, i ≠ 14 → i ≠ 15 → I1 i = I i) ∧ (∀ h', h' < nh → znd S nh b h' = true → I1 14 (zcnt (znd S nh b) h') = nI h') ∧ (∀ i, i < zcnt (znd S nh b) nh → I1 15 i = 0) := by
  have n4 := G.1.ns.2.2.2.2
  have n0 := G.1.ns.1
  intro d
  induction d with
  | zero =>
    intro h I e eS h14 h15
    have eh : h = nh := by omega
    subst eh
    exact ⟨I, rfl, fun _ _ _ => rfl, h14, h15⟩
  | succ d ih =>
    intro h I e eS h14 h15
    subst eS
    have hh : h < nh := by omega
    have hc := zcnt_le (znd (I 10) nh b) h
    rw [t_qm_plugs_27, G.1.2.1.2.2.2.2, if_pos (nI_lt hh (by omega)), ph0 (by omega), zkI_s, nI_1]
    by_cases q1 : I 10 (246 + 3 * h + 0) = nI b
    · rw [if_pos q1, ph2 (by omega), zkI_s]
      by_cases q2 : I 10 (246 + 3 * h + 2) = 1
      · have hn : ¬ znd (I 10) nh b h = true := by
          unfold znd
          rw [decide_eq_true q2]
          simp
        rw [if_pos q2, ← zcnt_n hn]
        refine ih (h + 1) I (by omega) rfl (fun h' hh' hd' => ?_) (fun i hi => h15 i (by rw [zcnt_n hn] at hi; exact hi))
        by_cases q : h' = h
        · subst q
          exact absurd hd' hn
        · exact h14 h' (by omega) hd'
      · have hn : znd (I 10) nh b h = true := by
          unfold znd
          rw [decide_eq_true hh, decide_eq_true q1, decide_eq_false q2]
          rfl
        rw [if_neg q2, zif_n (by omega) (by omega), zif_n (by omega) (by omega), ztnn (by omega), nI_1, ← zcnt_s hn, zsI_zrI, zsI_zrI]
        obtain ⟨I1, f1, f2, f3, f4⟩ := ih (h + 1) (zrI (zrI I 14 (upd (I 14) (zcnt (znd (I 10) nh b) h) (nI h))) 15 (upd (zrI I 14 (upd (I 14) (zcnt (znd (I 10) nh b) h) (nI h)) 15) (zcnt (znd (I 10) nh b) h) 0)) (by omega) (by rw [zrI_ne _ _ (by decide), zrI_ne _ _ (by decide)]) (fun h' hh' hd' => by
          rw [zrI_ne _ _ (by decide), zrI_row]
          by_cases q : h' = h
          · subst q
            rw [u_at]
          · have a1 := zcnt_s hd'
            have a2 := zcnt_mono (p := znd (I 10) nh b) (a := h' + 1) (h - (h' + 1))
            rw [show h' + 1 + (h - (h' + 1)) = h by omega] at a2
            rw [u_no (by omega)]
            exact h14 h' (by omega) hd') (fun i hi => by
          rw [zcnt_s hn] at hi
          rw [zrI_row, zrI_ne _ _ (by decide)]
          by_cases q : i = zcnt (znd (I 10) nh b) h
          · subst q
            rw [u_at]
          · rw [u_no q]
            exact h15 i (by omega))
        exact ⟨I1, f1, fun i a c => by rw [f2 i a c, zrI_ne _ _ c, zrI_ne _ _ a], f3, f4⟩
    · have hn : ¬ znd (I 10) nh b h = true := by
        unfold znd
        rw [decide_eq_false q1]
        simp
      rw [if_neg q1, ← zcnt_n hn]
      refine ih (h + 1) I (by omega) rfl (fun h' hh' hd' => ?_) (fun i hi => h15 i (by rw [zcnt_n hn] at hi; exact hi))
      by_cases q : h' = h
      · subst q
        exact absurd hd' hn
      · exact h14 h' (by omega) hd'
theorem p_fitsAny {nb nk ns nr nh k h : Nat} {σ : zSg} {I : zTI} {J : zTJ} {S : Nat → Int32} (G : zGood nb nk ns nr nh (I 3) S) (hk : k < 12) (hh : h < 4) : ∃ r, qw_fits 2 (nI k) (nI h) σ I J = some (some (.int r), (zSC σ, I, J)) ∧ (h < nh → r = if (decide (k < nk) && zft S k h) = true then 1 else 0) := by
  obtain ⟨⟨n0, n1, n2, n3, n4⟩, ⟨s0, s1, s2, s3, s4⟩, ⟨c0, c1, c2, c3, c4⟩, -, hB, hK, -, -, hH⟩ := id G.1
  by_cases q : k < nk
  · by_cases q2 : h < nh
    · refine ⟨_, p_fits w2 G q q2, fun _ => ?_⟩
      rw [decide_eq_true q, Bool.true_and]
    · rw [t_qw_fits 2 _ _ 3 w2, p_bargeOfW w2 c1 n1 q, zkI_s]
      by_cases e1 : zbw (I 3 (47 + k)) = -1
      · rw [if_pos e1]
        exact ⟨_, rfl, fun h => absurd h q2⟩
      · rw [if_neg e1, pc243 w2 hh, zkI_s]
        by_cases e2 : zbw (I 3 (47 + k)) = I 3 (243 + h)
        · rw [if_pos e2, pc97 w2 hk, zkI_s, pc247 w2 hh, zkI_s]
          split
          · exact ⟨_, rfl, fun h => absurd h q2⟩
          · exact ⟨_, rfl, fun h => absurd h q2⟩
        · rw [if_neg e2]
          exact ⟨_, rfl, fun h => absurd h q2⟩
  · rw [t_qw_fits 2 _ _ 3 w2, p_bargeOfW0 w2 c1 (Or.inr ⟨znn (by omega), fun h => q ((nI_ltI (by omega) (by omega)).mp h)⟩), zkI_s, if_pos rfl]
    refine ⟨_, rfl, fun _ => ?_⟩
    rw [decide_eq_false q, Bool.false_and, if_neg (by decide)]
theorem p_find48 {nb nk ns nr nh h : Nat} {σ : zSg} {J : zTJ} {S : Nat → Int32} {x : Int32} (hh : h < 4) : ∀ (d k : Nat) (I : zTI), k + d = 12 → zGood nb nk ns nr nh (I 3) S → (h < nh → I 43 h = zset (fun k => decide (k < nk) && zft S k h) k) → ∃ I1, qp_find_48 x (nI h) (nI k) σ I J = qp_find_2 x (nI (h + 1)) σ I1 J ∧ (∀ i, i ≠ 43 → I1 i = I i) ∧ (∀ j, j ≠ h → I1 43 j = I 43 j) ∧ (h < nh → I1 43 h = zset (fun k => decide (k < nk) && zft S k h) 12) := by
  intro d
  induction d with
  | zero =>
    intro k I e G hz
    have ek : k = 12 := by omega
    subst ek
    rw [t_qp_find_48, if_neg (show ¬ nI 12 < (12 : Int32) by decide), nI_1]
    exact ⟨I, rfl, fun _ _ => rfl, fun _ _ => rfl, hz⟩
  | succ d ih =>
    intro k I e G hz
    obtain ⟨r, f1, f2⟩ := p_fitsAny (σ := σ) (J := J) (k := k) (h := h) G (by omega) hh
    rw [t_qp_find_48, if_pos (show nI k < (12 : Int32) from nI_lt (b := 12) (by omega) (by decide)), f1, zkI_s, nI_1]
    by_cases q : r = 0
    · rw [if_pos q]
      refine ih (k + 1) I (by omega) G (fun hn => ?_)
      rw [hz hn]
      show _ = if (decide (k < nk) && zft S k h) = true then _ else zset (fun k => decide (k < nk) && zft S k h) k
      rw [if_neg]
      intro h1
      rw [f2 hn, if_pos h1] at q
      exact z10 q
    · rw [if_neg q, zif_n (by omega) (by omega), zif_n (by omega) (by omega), ztnn (by omega), zsI_zrI]
      obtain ⟨I1, g1, g2, g3, g4⟩ := ih (k + 1) (zrI I 43 (upd (I 43) h (I 43 h ||| ((1 : Int32) <<< (nI k &&& 31))))) (by omega) (by rw [zrI_ne _ _ (by decide)]; exact G) (fun hn => by
        rw [zrI_row, u_at, hz hn]
        show _ = if (decide (k < nk) && zft S k h) = true then zset (fun k => decide (k < nk) && zft S k h) k ||| ((1 : Int32) <<< (nI k &&& 31)) else _
        rw [if_pos]
        by_cases h1 : (decide (k < nk) && zft S k h) = true
        · exact h1
        · rw [f2 hn, if_neg h1] at q
          exact absurd rfl q)
      exact ⟨I1, g1, fun i a => by rw [g2 i a, zrI_ne _ _ a], fun j a => by rw [g3 j a, zrI_row, u_no a], g4⟩
set_option maxHeartbeats 2000000 in
theorem p_find2 {nb nk ns nr nh b : Nat} {σ : zSg} {J : zTJ} {C S : Nat → Int32} (G : zGood nb nk ns nr nh C S) (hb : b < nb) : ∀ (d h : Nat) (I : zTI), h + d = 4 → I 3 = C → (∀ i, i < h → I 42 i = (if znd S nh b i then 1 else 0) ∧ (znd S nh b i = true → I 43 i = zset (fun k => decide (k < nk) && zft S k i) 12)) → ∃ I1, qp_find_2 (nI b) (nI h) σ I J = qp_find_2 (nI b) (nI 4) σ I1 J ∧ (∀ i, i ≠ 42 → i ≠ 43 → I1 i = I i) ∧ (∀ i, i < 4 → I1 42 i = (if znd S nh b i then 1 else 0) ∧ (znd S nh b i = true → I1 43 i = zset (fun k => decide (k < nk) && zft S k i) 12)) := by
  have n0 := G.1.ns.1
  have n4 := G.1.ns.2.2.2.2
  intro d
  induction d with
  | zero =>
    intro h I e eC F
    have eh : h = 4 := by omega
    subst eh
    exact ⟨I, rfl, fun _ _ _ => rfl, F⟩
  | succ d ih =>
    intro h I e eC F
    subst eC
    obtain ⟨-, -, ⟨c0, c1, c2, c3, c4⟩, -, hB, hK, -, -, hH⟩ := id G.1
    have hnd : ∀ i, i < 4 → znd S nh b i = true → i < nh := fun i _ h => by
      unfold znd at h
      simp only [Bool.and_eq_true, decide_eq_true_eq] at h
      exact h.1.1
    have go : ∀ v : Int32, v = (if znd S nh b h then 1 else 0) → ∃ I1, qp_find_48 (nI b) (nI h) 0 σ (zsI (zsI I 42 h v) 43 h 0) J = qp_find_2 (nI b) (nI 4) σ I1 J ∧ (∀ i, i ≠ 42 → i ≠ 43 → I1 i = I i) ∧ (∀ i, i < 4 → I1 42 i = (if znd S nh b i then 1 else 0) ∧ (znd S nh b i = true → I1 43 i = zset (fun k => decide (k < nk) && zft S k i) 12)) := by
      intro v hv
      obtain ⟨I2, f1, f2, f3, f4⟩ := p_find48 (σ := σ) (J := J) (x := nI b) (h := h) (by omega) 12 0 (zsI (zsI I 42 h v) 43 h 0) (by omega) (by rw [zsI_ne _ _ _ (by decide), zsI_ne _ _ _ (by decide)]; exact G) (fun _ => by rw [zsI_at]; rfl)
      rw [show qp_find_48 (nI b) (nI h) 0 σ (zsI (zsI I 42 h v) 43 h 0) J = _ from f1]
      obtain ⟨I1, g1, g2, g3⟩ := ih (h + 1) I2 (by omega) (by rw [f2 3 (by decide), zsI_ne _ _ _ (by decide), zsI_ne _ _ _ (by decide)]) (fun i hi => by
        rw [f2 42 (by decide), zsI_ne _ _ _ (by decide)]
        by_cases q : i = h
        · subst q
          rw [zsI_at]
          exact ⟨hv, fun hd' => f4 (hnd i (by omega) hd')⟩
        · rw [zsI_no _ _ _ q, f3 i q, zsI_no _ _ _ q, zsI_ne _ _ _ (by decide)]
          exact F i (by omega))
      exact ⟨I1, g1, fun i a c => by rw [g2 i a c, f2 i c, zsI_ne _ _ _ c, zsI_ne _ _ _ a], g3⟩
    rw [t_qp_find_2, if_pos (show nI h < (4 : Int32) from nI_lt (b := 4) (by omega) (by decide))]
    by_cases qh : h < nh
    · obtain ⟨h0, h1, h2⟩ := hH h qh
      rw [p_isOpen w2 G qh, zkI_s]
      rcases zk_h2 G.1.ns G.2.1 qh with e2 | e2
      · rw [e2, if_pos rfl, if_neg z10, pc243 w2 (by omega), zkI_s, h0, zif_n (by omega) (by omega), zif_n (by omega) (by omega), zif_n (by omega) (by omega), zif_n (by omega) (by omega), ztnn (by omega)]
        by_cases q1 : S (246 + 3 * h + 0) = nI b
        · rw [if_pos q1]
          refine go 1 ?_
          rw [if_pos]
          unfold znd
          rw [decide_eq_true qh, decide_eq_true q1, e2]
          decide
        · rw [if_neg q1]
          refine go 0 ?_
          rw [if_neg]
          unfold znd
          rw [decide_eq_false q1]
          simp
      · rw [e2, if_neg z10, if_pos rfl, zif_n (by omega) (by omega), zif_n (by omega) (by omega), ztnn (by omega)]
        refine go 0 ?_
        rw [if_neg]
        unfold znd
        rw [e2]
        simp
    · rw [t_qw_isOpen 2 _ 3 w2, r0Hole w2 c4 (Or.inr ⟨znn (by omega), fun h => qh ((nI_ltI (by omega) (by omega)).mp h)⟩), zkI_s, if_pos rfl, zkI_s, if_pos rfl, zif_n (by omega) (by omega), zif_n (by omega) (by omega), ztnn (by omega)]
      refine go 0 ?_
      rw [if_neg]
      intro h
      exact qh (hnd _ (by omega) h)
theorem p_find92 {σ : zSg} {J : zTJ} : ∀ (d k : Nat) (I : zTI), k + d = 12 → (∀ i, i < k → I 44 i = I 3 (109 + i)) → ∃ I1, qp_find_92 (nI k) σ I J = qp_find_92 (nI 12) σ I1 J ∧ (∀ i, i ≠ 44 → I1 i = I i) ∧ (∀ i, i < 12 → I1 44 i = I 3 (109 + i)) := by
  intro d
  induction d with
  | zero =>
    intro k I e F
    have ek : k = 12 := by omega
    subst ek
    exact ⟨I, rfl, fun _ _ => rfl, F⟩
  | succ d ih =>
    intro k I e F
    rw [t_qp_find_92, if_pos (show nI k < (12 : Int32) from nI_lt (b := 12) (by omega) (by decide)), pc109 w2 (by omega), zkI_s, zif_n (by omega) (by omega), ztnn (by omega), nI_1]
    obtain ⟨I1, f1, f2, f3⟩ := ih (k + 1) (zsI I 44 k (I 3 (109 + k))) (by omega) (fun i hi => by
      rw [zsI_ne (b := 3) _ _ _ (by decide)]
      by_cases q : i = k
      · subst q
        rw [zsI_at]
      · rw [zsI_no _ _ _ q]
        exact F i (by omega))
    refine ⟨I1, f1, fun i a => by rw [f2 i a, zsI_ne _ _ _ a], fun i hi => ?_⟩
    rw [f3 i hi, zsI_ne _ _ _ (by decide)]
theorem p_pl208 {o j nh : Nat} {I : zTI} {J : zTJ} {nd : Nat → Bool} {op r : Nat → Nat} (ho : o ≤ 4) (hj : j < 4) (h14 : ∀ i, i < o → I 14 i = nI (op i) ∧ op i < nh) (hn : nh ≤ 4) (hnd : ∀ i, i < o → nd (op i) = true ∧ zcnt nd (op i) = i) (hop : ∀ h, h < 4 → nd h = true → zcnt nd h < o ∧ op (zcnt nd h) = h) (h16 : ∀ i, i < o → I 16 i = nI (r i)) : ∀ d i, i + d = o → (∀ i', i' < i → op i' ≠ j) → qm_plugs_208 (nI (j + 1)) (nI o) (nI i) I J = some (some (.int (if nd j = true then nI (r (zcnt nd j)) else -1)), (zSM, I, J)) := by
  intro d
  have ej : nI (j + 1) - 1 = nI j := by rw [← nI_1]; exact Int32.add_sub_cancel _ _
  induction d with
  | zero =>
    intro i e hi
    rw [t_qm_plugs_208, if_neg (fun q => by have := (nI_ltI (by omega) (by omega)).mp q; omega), if_neg]
    intro h
    obtain ⟨a, b⟩ := hop j hj h
    exact hi (zcnt nd j) (by omega) b
  | succ d ih =>
    intro i e hi
    obtain ⟨e14, b14⟩ := h14 i (by omega)
    rw [t_qm_plugs_208, if_pos (nI_lt (by omega) (by omega)), zif_n (by omega) (by omega), zif_n (by omega) (by omega), ztnn (by omega), e14, ej, nI_1]
    by_cases q : op i = j
    · obtain ⟨a, b⟩ := hnd i (by omega)
      rw [q] at a b
      rw [if_pos (by rw [q]), if_pos a, b, h16 i (by omega)]
    · rw [if_neg (fun h => q (znI (by omega) (by omega) h))]
      refine ih (i + 1) (by omega) (fun i' hi' => ?_)
      by_cases q2 : i' = i
      · subst q2
        exact q
      · exact hi i' (by omega)
set_option maxHeartbeats 4000000 in
theorem o_plugs {nb nk ns nr nh t j u : Nat} {σ : zSg} {I I' : zTI} {J J' : zTJ} (H : zSta nb nk ns nr nh t j u I I') (x1 x2 : Int32) : zDo nb nk ns nr nh t σ I I' (qb_plugs x1 x2 σ I J) (qm_plugs x1 x2 I' J') := by
  obtain ⟨T, G, -, -, -, hin, -⟩ := id H
  obtain ⟨⟨n0, n1, n2, n3, n4⟩, ⟨s0, s1, s2, s3, s4⟩, ⟨c0, c1, c2, c3, c4⟩, cD, hB, hK, hT, hR, -⟩ := id G.1
  rw [t_qb_plugs, t_qm_plugs]
  rcases zcase x1 nb (by omega) with ⟨b, hb, rfl⟩ | h
  · rw [r1Barge w2 c0 n0 hb, zkI_s, if_neg z10, q1Barge s0 n0 hb, zkI_s, if_neg z10, p_in (x := x2) (hi := 4) 4 rfl, zkI_s]
    rcases zwhat x2 4 (by omega) with ⟨w, hw, rfl⟩ | q
    · rw [if_pos (zrange hw (by omega)), if_neg z10, if_neg (znn (by omega)), if_neg (show ¬ (4 : Int32) < nI w from fun h => by have := (nI_ltI (a := 4) (by decide) (by omega)).mp h; omega)]
      -- the reference's list of holes
      obtain ⟨Im, m1, m2, m3, m4⟩ := p_pl27 (J := J') (x2 := nI w) G hb nh 0 I' (by omega) rfl (fun h' hh' => absurd hh' (by omega)) (fun i hi => absurd hi (by unfold zcnt; omega))
      rw [show qm_plugs_27 (nI b) (nI w) 0 0 I' J' = _ from m1]
      generalize hnd : znd (I' 10) nh b = nd at *
      have ho4 : zcnt nd 4 = zcnt nd nh := by rw [← hnd]; exact znd_4 n4
      have hol := zcnt_le nd nh
      obtain ⟨o, ho⟩ : ∃ o, o = zcnt nd nh := ⟨_, rfl⟩
      rw [← ho] at m1 m4 ho4 hol ⊢
      have ndb : ∀ h, nd h = true → h < nh := fun h hh => by
        rw [← hnd] at hh
        unfold znd at hh
        simp only [Bool.and_eq_true, decide_eq_true_eq] at hh
        exact hh.1.1
      have sj : ∀ i, i < o → ∃ h, h < nh ∧ nd h = true ∧ zcnt nd h = i := fun i hi => zcnt_ex nh (by rw [← ho]; exact hi)
      have inj : ∀ h, nd h = true → zcnt nd h < o := fun h hh => by
        have a1 := zcnt_s hh
        have a2 := zcnt_mono (p := nd) (a := h + 1) (nh - (h + 1))
        have := ndb h hh
        rw [show h + 1 + (nh - (h + 1)) = nh by omega] at a2
        omega
      have h14 : ∀ i, i < o → Im 14 i = nI ((Im 14 i).toNatClampNeg) ∧ (Im 14 i).toNatClampNeg < nh := fun i hi => by
        obtain ⟨h, a, b', c⟩ := sj i hi
        have := m3 h a b'
        rw [c] at this
        rw [this, ztnn (by omega)]
        exact ⟨rfl, a⟩
      have hop : ∀ h, h < 4 → nd h = true → (fun i => (Im 14 i).toNatClampNeg) (zcnt nd h) = h := fun h _ hh => by
        show (Im 14 (zcnt nd h)).toNatClampNeg = h
        have := ndb h hh
        rw [m3 h this hh, ztnn (by omega)]
      generalize hopf : (fun i => (Im 14 i).toNatClampNeg) = op at *
      have h14' : ∀ i, i < o → Im 14 i = nI (op i) ∧ op i < nh := fun i hi => by
        rw [← hopf]
        exact h14 i hi
      have ndop : ∀ i, i < o → nd (op i) = true ∧ zcnt nd (op i) = i := fun i hi => by
        obtain ⟨h, a, b', c⟩ := sj i hi
        have := hop h (by omega) b'
        rw [c] at this
        rw [this]
        exact ⟨b', c⟩
      -- the class
      rw [t_qp_find]
      obtain ⟨I1, f1, f2, f3⟩ := p_find2 (σ := σ) (J := J) G hb 4 0 I (by omega) rfl (fun i hi => absurd hi (by omega))
      rw [show qp_find_2 (nI b) 0 σ I J = _ from f1, t_qp_find_2, if_neg (show ¬ nI 4 < (4 : Int32) by decide)]
      obtain ⟨I2, g1, g2, g3⟩ := p_find92 (σ := σ) (J := J) 12 0 I1 (by omega) (fun i hi => absurd hi (by omega))
      rw [show qp_find_92 0 σ I1 J = _ from g1, t_qp_find_92, if_neg (show ¬ nI 12 < (12 : Int32) by decide)]
      rw [hnd] at f3
      have i3 : I1 3 = I 3 := f2 3 (by decide) (by decide)
      obtain ⟨I3, k1, k2, k3, k4⟩ := p_psearch (σ := σ) (J := J) (nd := nd) (op := op) (o := o) G.1.ns G.2.1 ho4 hop 4 0 (fun _ => 0) none (zsI I2 41 5 1000000000) (by omega) (fun i hi => by
        rw [zsI_ne _ _ _ (by decide), zsI_ne _ _ _ (by decide), g2 42 (by decide), g2 43 (by decide)]
        exact f3 i hi) (fun k hk => by
        rw [zsI_ne _ _ _ (by decide), g3 k (by omega), i3]
        exact (hK k hk).2.1) (by
        show zsI I2 41 5 1000000000 41 5 = 1000000000
        rw [zsI_at]) (fun i hi => absurd hi (by omega)) (fun i hi => absurd hi (by unfold zcnt; omega)) rfl
      rw [show zask zG (zS zG) 18 30 [.ref 41, .int 0, .int 0, .int 0] (zSC σ, zsI I2 41 5 1000000000, J) = _ from (a_ps (d := 18) (h := 0) (by omega) (by omega)).trans k1, zkV_s]
      have keep : ∀ i, i < 7 ∨ i = 25 ∨ 47 ≤ i → I3 i = I i := fun i hi => by
        rw [k2 i (by omega) (by omega) (by omega), zsI_ne _ _ _ (by omega), g2 i (by omega), f2 i (by omega) (by omega)]
      have eo : o - zcnt nd 0 = o := rfl
      rw [eo] at k4
      -- the reference's answer
      have fin : ∀ (s : Option (Nat → Nat)) (Ia : zTI), (∀ i, i ≠ 14 → i ≠ 15 → i ≠ 16 → Ia i = I' i) → (∀ i, i < o → Ia 14 i = nI (op i) ∧ op i < nh) → zMs o s Ia → zPs (I' 10) nd o s I3 → zDo nb nk ns nr nh t σ I I' (zkI (if I3 41 5 = 1000000000 then some (some (.int 0), (zSC σ, I3, J)) else some (some (.int 1), (zSC σ, I3, J))) (zSC σ) (fun r6 I4 J5 => (if r6 = 0 then (some (some (.int (-2)), ((zSC σ), I4, J5))) else (if nI w = 0 then (some (some (.int (I4 41 5)), ((zSC σ), I4, J5))) else (zif (zin (nI w - 1) 4) (some (some (.int (I4 46 ((nI w - 1).toNatClampNeg))), ((zSC σ), I4, J5)))))))) (qm_plugs_119 (nI w) (nI o) (zE4 (I' 10) o s) 0 Ia J') := by
        intro s Ia ka k14 hM hP
        have kr : ∀ i, i = 1 ∨ i = 2 ∨ i = 4 ∨ i = 5 ∨ i = 10 ∨ i = 11 ∨ i = 18 ∨ i = 19 ∨ i = 20 → Ia i = I' i := fun i hi => ka i (by omega) (by omega) (by omega)
        have kr0 : ∀ k, k = 1 ∨ k = 2 ∨ k = 22 ∨ k = 23 ∨ k = 25 → Ia 0 k = I' 0 k := fun k _ => by rw [ka 0 (by decide) (by decide) (by decide)]
        rw [t_qm_plugs_119, if_pos rfl]
        cases s with
        | none =>
          rw [show I3 41 5 = 1000000000 from hP, if_pos rfl, zkI_s, if_pos rfl, show zE4 (I' 10) o none = -2 from rfl, if_pos (show (-2 : Int32) < 0 by decide)]
          exact zDo_scr H rfl rfl keep kr0 kr
        | some r =>
          obtain ⟨p1, p2, p3⟩ := hP
          rw [p1, if_neg (show ¬ nI (zpwt (I' 10) r o) = (1000000000 : Int32) from fun h => by have := znI (b := 1000000000) (by omega) (by decide) h; omega), zkI_s, if_neg z10, show zE4 (I' 10) o (some r) = nI (zpwt (I' 10) r o) from rfl, if_neg (znn (by omega)), p1]
          by_cases w0 : w = 0
          · subst w0
            rw [if_pos (show nI 0 = 0 from rfl), if_pos (show nI 0 = 0 from rfl)]
            exact zDo_scr H rfl rfl keep kr0 kr
          · obtain ⟨v, rfl⟩ : ∃ v, w = v + 1 := ⟨w - 1, by omega⟩
            have ew : nI (v + 1) - 1 = nI v := by rw [← nI_1]; exact Int32.add_sub_cancel _ _
            have wz : ¬ nI (v + 1) = 0 := fun h => by have := znI (b := 0) (by omega) (by decide) h; omega
            rw [if_neg wz, if_neg wz, ew, zif_n (by omega) (by omega), ztnn (by omega), p3 v (by omega), show qm_plugs_208 (nI (v + 1)) (nI o) 0 Ia J' = _ from p_pl208 (nd := nd) (op := op) (r := r) (nh := nh) (by omega) (show v < 4 by omega) k14 n4 ndop (fun h h4 hh => ⟨inj h hh, hop h h4 hh⟩) hM o 0 (by omega) (fun i' hi' => absurd hi' (by omega))]
            exact zDo_scr H rfl rfl keep kr0 kr
      have ka0 : ∀ i, i ≠ 14 → i ≠ 15 → i ≠ 16 → Im i = I' i := fun i a b _ => m2 i a b
      have i10 : Im 10 = I' 10 := m2 10 (by decide) (by decide)
      rw [t_qm_plugs_27, i10, s4, if_neg (show ¬ nI nh < nI nh from fun q => by have := (nI_ltI (by omega) (by omega)).mp q; omega), s1]
      by_cases o0 : o = 0
      · rw [o0] at k4 fin ⊢
        have hz : zen (zpst (I' 10) op 0) nk 0 0 (fun _ => 0) none = some (fun _ => 0) := rfl
        rw [hz] at k4
        rw [if_pos (show nI 0 = 0 from rfl), if_neg (show ¬ (0 : Int32) < nI 0 by decide)]
        exact fin (some (fun _ => 0)) Im ka0 (fun i hi => absurd hi (by omega)) (fun i hi => absurd hi (by omega)) k4
      · rw [if_neg (show ¬ nI o = 0 from fun h => o0 (znI (b := 0) (by omega) (by decide) h)), if_pos (show (0 : Int32) < nI o from nI_lt (a := 0) (by omega) (by omega))]
        by_cases k0 : nk = 0
        · rw [if_neg (show ¬ (0 : Int32) < nI nk from fun h => by have := (nI_ltI (a := 0) (by decide) (by omega)).mp h; omega)]
          obtain ⟨m, hm⟩ : ∃ m, o = m + 1 := ⟨o - 1, by omega⟩
          have hz : zen (zpst (I' 10) op o) nk o o (fun _ => 0) none = none := by
            rw [k0]
            rw [show ∀ f : Option (Nat → Nat) → (Nat → Nat) → Option (Nat → Nat), zen f 0 o o (fun _ => 0) none = zen f 0 o (m + 1) (fun _ => 0) none from fun f => by rw [← hm]]
            rfl
          rw [hz] at k4
          exact fin none Im ka0 h14' trivial k4
        · rw [if_pos (show (0 : Int32) < nI nk from nI_lt (a := 0) (by omega) (by omega))]
          obtain ⟨I5, q1, q2, q3, q4, q5⟩ := p_plM (J := J') (x2 := nI w) (op := op) (o := o) G (by omega) o (fun _ => 0) none Im (Nat.le_refl o) (by omega) i10 h14' (fun i hi => by rw [m4 i hi]; rfl) (fun i hi => by omega) (fun _ _ _ => rfl) trivial (fun q hq => by cases hq)
          rw [show qm_plugs_119 (nI w) (nI o) (-2) 1 Im J' = _ from q1, Nat.sub_self, t_qm_nextPlugRow_4, if_pos (show nI 0 - 1 < 0 by decide), zkI_s]
          exact fin _ I5 (fun i a b c => by rw [q2 i b c, m2 i a b]) (fun i hi => by rw [q2 14 (by decide) (by decide)]; exact h14' i hi) q4 k4
    · rw [if_neg q, if_pos rfl]
      by_cases q3 : x2 < 0
      · rw [if_pos q3]
        exact zDo_same H ⟨_, rfl, rfl⟩
      · rw [if_neg q3, if_pos]
        · exact zDo_same H ⟨_, rfl, rfl⟩
        · obtain ⟨v, rfl, hv⟩ := zof q3
          rw [nI_toInt hv] at q
          exact nI_lt (a := 4) (by omega) hv
  · rw [r0Barge w2 c0 h, zkI_s, if_pos rfl, q0Barge s0 h, zkI_s, if_pos rfl]
    exact zDo_same H ⟨_, rfl, rfl⟩
