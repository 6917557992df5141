/-! ===== lending, dear ===== -/
theorem zSta_cong2 {nb nk ns nr nh t j u : Nat} {I I' I2 I2' : zTI} (H : zSta nb nk ns nr nh t j u I I') (h : ∀ i, i = 0 ∨ i = 1 ∨ i = 3 ∨ i = 6 → I2 i = I i) (h25 : I2 25 6 = 0) (h0 : ∀ k, k = 1 ∨ k = 2 ∨ k = 22 ∨ k = 23 ∨ k = 25 → I2' 0 k = I' 0 k) (h' : ∀ i, i = 1 ∨ i = 10 ∨ i = 11 → I2' i = I' i) : zSta nb nk ns nr nh t j u I2 I2' := by
  obtain ⟨T, G, R, x, x0, n, e7, e8, e25, e5, e6⟩ := H
  unfold zSta zTp
  rw [h 0 (by omega), h 1 (by omega), h 3 (by omega), h 6 (by omega), h0 1 (by omega), h0 2 (by omega), h0 22 (by omega), h0 23 (by omega), h0 25 (by omega), h' 1 (by omega), h' 10 (by omega), h' 11 (by omega)]
  exact ⟨T, G, R, x, x0, n, e7, e8, e25, e5, h25⟩
theorem zDo_scr2 {nb nk ns nr nh t j u : Nat} {σ : zSg} {I I' I2 I2' : zTI} {J2 J2' : zTJ} {x y : Option zR} {r : Int32} (H : zSta nb nk ns nr nh t j u I I') (hx : x = some (some (.int r), (zSC σ, I2, J2))) (hy : y = some (some (.int r), (zSM, I2', J2'))) (h : ∀ i, i < 7 ∨ 47 ≤ i → I2 i = I i) (h25 : I2 25 6 = 0) (h0 : ∀ k, k = 1 ∨ k = 2 ∨ k = 22 ∨ k = 23 ∨ k = 25 → I2' 0 k = I' 0 k) (h' : ∀ i, i = 1 ∨ i = 2 ∨ i = 4 ∨ i = 5 ∨ i = 10 ∨ i = 11 ∨ i = 18 ∨ i = 19 ∨ i = 20 → I2' i = I' i) : zDo nb nk ns nr nh t σ I I' x y :=
  ⟨r, I2, I2', J2, J2', hx, hy, ⟨j, u, zSta_cong2 H (fun i hi => h i (by omega)) h25 h0 (fun i hi => h' i (by omega))⟩, ⟨fun i hi => h i (Or.inr hi), by rw [h 0 (by omega)]⟩, ⟨fun i hi => h' i (by omega), h0 2 (by omega)⟩⟩
theorem p_t3 {J : zTJ} {x1 x2 x3 : Int32} : ∀ (m i : Nat) (I : zTI), i + m = 6 → (∀ r, r < i → I 12 r = -1) → ∃ I1, qm_tellsThrough_3 x1 x2 x3 (nI i) I J = qm_tellsThrough_30 x1 x2 x3 (zsI I1 0 30 (-2)) J ∧ (∀ i, i ≠ 12 → I1 i = I i) ∧ (∀ r, r < 6 → I1 12 r = -1) := by
  intro m
  induction m with
  | zero =>
    intro i I e h
    have ei : i = 6 := by omega
    subst ei
    rw [t_qm_tellsThrough_3, if_neg (show ¬ nI 6 < (6 : Int32) by decide)]
    exact ⟨I, rfl, fun _ _ => rfl, h⟩
  | succ m ih =>
    intro i I e h
    rw [t_qm_tellsThrough_3, if_pos (show nI i < (6 : Int32) from nI_lt (b := 6) (by omega) (by decide)), zif_n (by omega) (by omega), ztnn (by omega), nI_1]
    obtain ⟨I1, f1, f2, f3⟩ := ih (i + 1) (zsI I 12 i (-1)) (by omega) (fun r hr => by
      by_cases q : r = i
      · subst q
        rw [zsI_at]
      · rw [zsI_no _ _ _ q]
        exact h r (by omega))
    exact ⟨I1, f1, fun k hk => by rw [f2 k hk, zsI_ne _ _ _ hk], f3⟩
theorem p_tells {nb nk ns nr nh b a sp dy : Nat} {I : zTI} {J : zTJ} {C : Nat → Int32} {x e : Int32} (G : zGood nb nk ns nr nh C (I 10)) (hb : b < nb) (ea : I 10 (6 + 7 * b + 5) = nI a) (has : a ≤ sp) (hsp : sp < ns) (hdy : dy ≤ 9999) (edy : I 10 5 = nI dy) (ee : I 0 23 = e) : ∃ I1, qm_tellsThrough (nI b) (nI sp) x I J = some (none, (zSM, I1, J)) ∧ (∀ i, i ≠ 0 → i ≠ 12 → i ≠ 13 → I1 i = I i) ∧ (∀ k, k ≠ 30 → I1 0 k = I 0 k) ∧ I1 0 30 = zE30 (I 10) nr (zen (zls_ C (I 10) dy e nk nr b a sp x) (nk + 1) nr nr (fun _ => 0) none) ∧ zMl nr (zen (zls_ C (I 10) dy e nk nr b a sp x) (nk + 1) nr nr (fun _ => 0) none) I1 := by
  have n3 := G.1.ns.2.2.2.1
  obtain ⟨I2, f1, f2, f3⟩ := p_t3 (J := J) (x1 := nI b) (x2 := nI sp) (x3 := x) 6 0 I (by omega) (fun r hr => absurd hr (by omega))
  rw [t_qm_tellsThrough, show qm_tellsThrough_3 (nI b) (nI sp) x 0 I J = _ from f1]
  obtain ⟨I1, g1, g2, g3, g4, g5, g6, g7⟩ := p_teM (J := J) (x := x) (e := e) G hb ea has hsp hdy edy nr (fun _ => 0) none (zsI I2 0 30 (-2)) (Nat.le_refl nr) (by rw [zsI_ne _ _ _ (by decide), f2 10 (by decide)]) (by rw [zsI_no _ _ _ (by decide), f2 0 (by decide)]; exact ee) (fun r _ => Or.inl rfl) (fun _ _ _ => rfl) (fun r hr => by rw [zsI_ne _ _ _ (by decide), f3 r (by omega)]; decide) (by rw [zsI_at]; rfl) trivial (fun q hq => by cases hq)
  rw [g1, Nat.sub_self, t_qm_nextRow_10, if_pos (show nI 0 - 1 < 0 by decide), zkI_s, if_pos rfl]
  exact ⟨I1, rfl, fun i a1 a2 a3 => by rw [g2 i a1 a2 a3, zsI_ne _ _ _ a1, f2 i a2], fun k hk => by rw [g3 k hk, zsI_no _ _ _ hk, f2 0 (by decide)], g5, g6⟩
/-- the coins, at least 0 -/
def zcz (S : Nat → Int32) (nr : Nat) : Option (Nat → Nat) → Int32
  | none => 0
  | some q => nI (zcoi S nr q)
theorem p_mostM {nb nk ns nr nh b a sp dy : Nat} {I : zTI} {J : zTJ} {C : Nat → Int32} {x e : Int32} (G : zGood nb nk ns nr nh C (I 10)) (hb : b < nb) (ea : I 10 (6 + 7 * b + 5) = nI a) (has : a ≤ sp) (hsp : sp < ns) (hdy : dy ≤ 9999) (edy : I 10 5 = nI dy) (ee : I 0 23 = e) (hle : ∀ q, zen (zls_ C (I 10) dy e nk nr b a sp x) (nk + 1) nr nr (fun _ => 0) none = some q → zcoi (I 10) nr q ≤ 594) : ∃ I1, qm_mostCoins (nI b) (nI sp) x I J = some (some (.int (zcz (I 10) nr (zen (zls_ C (I 10) dy e nk nr b a sp x) (nk + 1) nr nr (fun _ => 0) none))), (zSM, I1, J)) ∧ (∀ i, i ≠ 0 → i ≠ 12 → i ≠ 13 → I1 i = I i) ∧ (∀ k, k ≠ 30 → I1 0 k = I 0 k) := by
  obtain ⟨I1, f1, f2, f3, f4, f5⟩ := p_tells (J := J) (x := x) G hb ea has hsp hdy edy ee
  rw [t_qm_mostCoins, f1, zkV_s, f4]
  generalize zen (zls_ C (I 10) dy e nk nr b a sp x) (nk + 1) nr nr (fun _ => 0) none = s at hle
  cases s with
  | none =>
    rw [show zE30 (I 10) nr none = -2 from rfl, if_pos (by decide)]
    exact ⟨I1, rfl, f2, f3⟩
  | some q =>
    have := hle q rfl
    rw [show zE30 (I 10) nr (some q) = nI (zcoi (I 10) nr q) from rfl, if_neg (znn (by omega))]
    exact ⟨I1, rfl, f2, f3⟩
theorem zDs_le {S : Nat → Int32} {nr : Nat} {s : Option (Nat → Nat)} {I : zTI} (h : zDs S nr s I) : ∀ q, s = some q → zcoi S nr q ≤ 594 := by
  intro q hq
  subst hq
  exact h.2.1
theorem zDs_cz {S : Nat → Int32} {nr : Nat} {s : Option (Nat → Nat)} {I : zTI} (h : zDs S nr s I) : (if I 23 10 < 0 then 0 else I 23 10) = zcz S nr s := by
  cases s with
  | none =>
    rw [show I 23 10 = -1 from h, if_pos (by decide)]
    rfl
  | some q =>
    obtain ⟨h1, h2, -⟩ := h
    rw [h1, if_neg (znn (by omega))]
    rfl
/-- a barge and a stop not behind her -/
theorem p_from {nb nk ns nr nh : Nat} {σ : zSg} {I I' : zTI} {J J' : zTJ} (G : zGood nb nk ns nr nh (I 3) (I' 10)) (x1 x2 : Int32) : ∃ r, qw_isFrom 2 x1 x2 σ I J = some (some (.int r), (zSC σ, I, J)) ∧ qm_isAhead x1 x2 I' J' = some (some (.int r), (zSM, I', J')) ∧ (r = 0 ∨ (r = 1 ∧ ∃ b sp a, x1 = nI b ∧ b < nb ∧ x2 = nI sp ∧ sp < ns ∧ I' 10 (6 + 7 * b + 5) = nI a ∧ a ≤ sp)) := by
  obtain ⟨⟨n0, n1, n2, n3, n4⟩, ⟨s0, s1, s2, s3, s4⟩, ⟨c0, c1, c2, c3, c4⟩, cD, hB, hK, -, hR, -⟩ := id G.1
  rw [t_qw_isFrom 2 _ _ 3 w2, t_qm_isAhead]
  rcases zcase x1 nb (by omega) with ⟨b, hb, rfl⟩ | h
  · rw [r1Barge w2 c0 n0 hb, zkI_s, if_neg z10, q1Barge s0 n0 hb, zkI_s, if_neg z10]
    rcases zcase x2 ns (by omega) with ⟨sp, hs, rfl⟩ | h
    · obtain ⟨-, -, -, -, -, b5, -⟩ := hB b hb
      obtain ⟨a, ha, ea⟩ := zk_g5 G.1.ns G.2.1 hb
      rw [r1Stop w2 c2 n2 hs, zkI_s, if_neg z10, q1Stop s2 n2 hs, zkI_s, if_neg z10, zy1, zif_n (by omega) (by omega), ztnn (by omega), pst (by omega), zkI_s, b5, ea]
      by_cases q : sp < a
      · rw [if_pos (nI_lt q (by omega)), if_pos (nI_lt q (by omega))]
        exact ⟨_, rfl, rfl, Or.inl rfl⟩
      · rw [if_neg (fun h => q ((nI_ltI (by omega) (by omega)).mp h)), if_neg (fun h => q ((nI_ltI (by omega) (by omega)).mp h))]
        exact ⟨_, rfl, rfl, Or.inr ⟨rfl, b, sp, a, rfl, hb, rfl, hs, ea, by omega⟩⟩
    · rw [r0Stop w2 c2 h, zkI_s, if_pos rfl, q0Stop s2 h, zkI_s, if_pos rfl]
      exact ⟨_, rfl, rfl, Or.inl rfl⟩
  · rw [r0Barge w2 c0 h, zkI_s, if_pos rfl, q0Barge s0 h, zkI_s, if_pos rfl]
    exact ⟨_, rfl, rfl, Or.inl rfl⟩
set_option maxHeartbeats 4000000 in
theorem o_dear {nb nk ns nr nh t j u : Nat} {σ : zSg} {I I' : zTI} {J J' : zTJ} (H : zSta nb nk ns nr nh t j u I I') (x1 x2 x3 : Int32) : zDo nb nk ns nr nh t σ I I' (qb_dear x1 x2 x3 σ I J) (qm_dear x1 x2 x3 I' J') := by
  obtain ⟨T, G, -, -, -, hin, -, -, -, -, h25⟩ := id H
  obtain ⟨⟨n0, n1, n2, n3, n4⟩, ⟨s0, s1, s2, s3, s4⟩, ⟨c0, c1, c2, c3, c4⟩, cD, hB, hK, -, hR, -⟩ := id G.1
  obtain ⟨r, e1, e2, er⟩ := p_from (σ := σ) (J := J) (J' := J') G x1 x2
  rw [t_qb_dear, t_qm_dear, e1, zkI_s, e2, zkI_s]
  rcases er with rfl | ⟨rfl, b, sp, a, rfl, hb, rfl, hsp, ea, has⟩
  · rw [if_pos rfl, if_pos rfl]
    exact zDo_same H ⟨_, rfl, rfl⟩
  · rw [if_neg z10, if_neg z10]
    rcases zcase x3 nr (by omega) with ⟨r, hr, rfl⟩ | h
    · rw [r1Reader w2 c3 n3 hr, zkI_s, if_neg z10, q1Reader s3 n3 hr, zkI_s, if_neg z10]
      obtain ⟨dy, hdy, edy⟩ := zk_day G.2.1
      obtain ⟨I1, f1, f2, f3, f4⟩ := p_mostC (σ := σ) (J := J) (x := -1) (e := 0) G hb ea has hsp hdy edy h25
      have i3 : I1 3 = I 3 := f2 3 (by omega)
      obtain ⟨I2, g1, g2, g3, g4⟩ := p_mostC (σ := σ) (J := J) (x := nI r) (e := 0) (I := I1) (S := I' 10) (by rw [i3]; exact G) hb ea has hsp hdy edy f3
      rw [i3] at g4
      obtain ⟨Im, m1, m2, m3⟩ := p_mostM (J := J') (x := -1) G hb ea has hsp hdy edy hin (zDs_le f4)
      have j10 : Im 10 = I' 10 := m2 10 (by decide) (by decide) (by decide)
      obtain ⟨In, k1, k2, k3⟩ := p_mostM (J := J') (x := nI r) (C := I 3) (I := Im) (e := 0) (by rw [j10]; exact G) hb (by rw [j10]; exact ea) has hsp hdy (by rw [j10]; exact edy) (by rw [m3 23 (by decide)]; exact hin) (by rw [j10]; exact zDs_le g4)
      rw [j10] at k1
      rw [f1, zkI_s, g1, zkI_s, m1, zkI_s, k1, zkI_s, zDs_cz f4, zDs_cz g4]
      exact zDo_scr2 H rfl rfl (fun i hi => by rw [g2 i (by omega), f2 i (by omega)]) g3 (fun k hk => by rw [k3 k (by omega), m3 k (by omega)]) (fun i hi => by rw [k2 i (by omega) (by omega) (by omega), m2 i (by omega) (by omega) (by omega)])
    · rw [r0Reader w2 c3 h, zkI_s, if_pos rfl, q0Reader s3 h, zkI_s, if_pos rfl]
      exact zDo_same H ⟨_, rfl, rfl⟩
set_option maxHeartbeats 4000000 in
theorem o_lending {nb nk ns nr nh t j u : Nat} {σ : zSg} {I I' : zTI} {J J' : zTJ} (H : zSta nb nk ns nr nh t j u I I') (x1 x2 x3 : Int32) : zDo nb nk ns nr nh t σ I I' (qb_lending x1 x2 x3 σ I J) (qm_lending x1 x2 x3 I' J') := by
  obtain ⟨T, G, -, -, -, hin, -, -, -, -, h25⟩ := id H
  obtain ⟨⟨n0, n1, n2, n3, n4⟩, ⟨s0, s1, s2, s3, s4⟩, ⟨c0, c1, c2, c3, c4⟩, cD, hB, hK, -, hR, -⟩ := id G.1
  obtain ⟨r, e1, e2, er⟩ := p_from (σ := σ) (J := J) (J' := J') G x1 x2
  rw [t_qb_lending, t_qm_lending, e1, zkI_s, e2, zkI_s]
  rcases er with rfl | ⟨rfl, b, sp, a, rfl, hb, rfl, hsp, ea, has⟩
  · rw [if_pos rfl, if_pos rfl]
    exact zDo_same H ⟨_, rfl, rfl⟩
  · rw [if_neg z10, if_neg z10, p_in (x := x3) (hi := 7) 7 rfl, zkI_s]
    rcases zwhat x3 7 (by omega) with ⟨w, hw, rfl⟩ | q
    · rw [if_pos (zrange hw (by omega)), if_neg z10, if_neg (znn (by omega)), if_neg (show ¬ (7 : Int32) < nI w from fun h => by have := (nI_ltI (a := 7) (by decide) (by omega)).mp h; omega)]
      obtain ⟨dy, hdy, edy⟩ := zk_day G.2.1
      obtain ⟨I1, f1, f2, f3, f4⟩ := p_mostC (σ := σ) (J := J) (x := -1) (e := 0) G hb ea has hsp hdy edy h25
      have i3 : I1 3 = I 3 := f2 3 (by omega)
      rw [f1, zkI_s]
      by_cases w1 : w = 1
      · subst w1
        obtain ⟨I2, g1, g2, g3, g4⟩ := p_mostC (σ := σ) (J := J) (x := -1) (e := 1) (I := I1) (S := I' 10) (by rw [i3]; exact G) hb ea has hsp hdy edy f3
        rw [i3] at g4
        obtain ⟨Im, m1, m2, m3⟩ := p_mostM (J := J') (x := -1) G hb ea has hsp hdy edy hin (zDs_le f4)
        have j10 : (zsI Im 0 23 1) 10 = I' 10 := by rw [zsI_ne _ _ _ (by decide), m2 10 (by decide) (by decide) (by decide)]
        obtain ⟨In, k1, k2, k3⟩ := p_mostM (J := J') (x := -1) (C := I 3) (I := zsI Im 0 23 1) (e := 1) (by rw [j10]; exact G) hb (by rw [j10]; exact ea) has hsp hdy (by rw [j10]; exact edy) (by rw [zsI_at]) (by rw [j10]; exact zDs_le g4)
        rw [j10] at k1
        rw [if_pos (show nI 1 = (1 : Int32) from rfl), if_pos (show nI 1 = (1 : Int32) from rfl), g1, zkI_s, m1, zkI_s, k1, zkI_s, zDs_cz f4, zDs_cz g4]
        refine zDo_scr2 H rfl rfl (fun i hi => by rw [g2 i (by omega), f2 i (by omega)]) g3 (fun k hk => ?_) (fun i hi => by rw [zsI_ne _ _ _ (by omega), k2 i (by omega) (by omega) (by omega), zsI_ne _ _ _ (by omega), m2 i (by omega) (by omega) (by omega)])
        by_cases q : k = 23
        · subst q
          rw [zsI_at, hin]
        · rw [zsI_no _ _ _ q, k3 k (by omega), zsI_no _ _ _ q, m3 k (by omega)]
      · have w1' : ¬ nI w = (1 : Int32) := fun h => w1 (znI (b := 1) (by omega) (by decide) h)
        obtain ⟨Im, m1, m2, m3, m4, m5⟩ := p_tells (J := J') (x := -1) G hb ea has hsp hdy edy hin
        rw [if_neg w1', if_neg w1', m1, zkV_s, m4]
        have fin : ∀ v, ∀ (x y : Option zR), x = some (some (.int v), (zSC σ, I1, J)) → y = some (some (.int v), (zSM, Im, J')) → zDo nb nk ns nr nh t σ I I' x y := fun v x y hx hy => zDo_scr2 H hx hy (fun i hi => f2 i (by omega)) f3 (fun k hk => m3 k (by omega)) (fun i hi => m2 i (by omega) (by omega) (by omega))
        generalize zen (zls_ (I 3) (I' 10) dy 0 nk nr b a sp (-1)) (nk + 1) nr nr (fun _ => 0) none = s at f4 m4 m5
        cases s with
        | none =>
          rw [show I1 23 10 = -1 from f4, if_pos rfl, show zE30 (I' 10) nr none = -2 from rfl, if_pos (show (-2 : Int32) < 0 by decide)]
          exact fin _ _ _ rfl rfl
        | some q =>
          obtain ⟨p1, p2, p3, p4⟩ := f4
          rw [p1, if_neg (znm (by omega)), show zE30 (I' 10) nr (some q) = nI (zcoi (I' 10) nr q) from rfl, if_neg (znn (by omega))]
          by_cases w0 : w = 0
          · subst w0
            rw [if_pos (show nI 0 = 0 from rfl), if_pos (show nI 0 = 0 from rfl)]
            exact fin _ _ _ rfl rfl
          · have w0' : ¬ nI w = 0 := fun h => w0 (znI (b := 0) (by omega) (by decide) h)
            obtain ⟨v, rfl⟩ : ∃ v, w = v + 2 := ⟨w - 2, by omega⟩
            have ev : nI (v + 2) - 2 = nI v := by
              rw [← nI_add]
              exact Int32.add_sub_cancel _ _
            have j10 : Im 10 = I' 10 := m2 10 (by decide) (by decide) (by decide)
            rw [if_neg w0', if_neg w0', ev, zif_n (by omega) (by omega), ztnn (by omega), p4 v (by omega)]
            by_cases hv : v < nr
            · rw [q1Reader (nr := nr) (by rw [j10]; exact s3) n3 hv, zkI_s, if_neg z10, zif_n (by omega) (by omega), m5 v hv]
              exact fin _ _ _ rfl rfl
            · rw [q0Reader (nr := nr) (by rw [j10]; exact s3) (Or.inr ⟨znn (by omega), fun h => hv ((nI_ltI (by omega) (by omega)).mp h)⟩), zkI_s, if_pos rfl, p3 v (by omega)]
              exact fin (-1) _ _ (by rw [show nI 0 - 1 = (-1 : Int32) from by decide]) rfl
    · rw [if_neg q, if_pos rfl]
      by_cases q3 : x3 < 0
      · rw [if_pos q3]
        exact zDo_same H ⟨_, rfl, rfl⟩
      · rw [if_neg q3, if_pos]
        · exact zDo_same H ⟨_, rfl, rfl⟩
        · obtain ⟨v, rfl, hv⟩ := zof q3
          rw [nI_toInt hv] at q
          exact nI_lt (a := 7) (by omega) hv
