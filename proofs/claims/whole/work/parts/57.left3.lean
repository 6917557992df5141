/-! ===== left: both ===== -/
theorem zsN_zero {f : Nat → Nat} : ∀ n, zsN f (fun _ => false) n = 0
  | 0 => rfl
  | n + 1 => by
    unfold zsN
    rw [if_neg (by decide), zsN_zero n]
theorem zSta_cong {nb nk ns nr nh t j u : Nat} {I I' I2 I2' : zTI} (H : zSta nb nk ns nr nh t j u I I') (h : ∀ i, i = 0 ∨ i = 1 ∨ i = 3 ∨ i = 6 ∨ i = 25 → I2 i = I i) (h0 : ∀ k, k = 1 ∨ k = 2 ∨ k = 22 ∨ k = 23 ∨ k = 25 → I2' 0 k = I' 0 k) (h' : ∀ i, i = 1 ∨ i = 10 ∨ i = 11 → I2' i = I' i) : zSta nb nk ns nr nh t j u I2 I2' := by
  obtain ⟨T, G, R, x, x0, n, e7, e8, e25, e5, e6⟩ := H
  unfold zSta zTp
  rw [h 0 (by omega), h 1 (by omega), h 3 (by omega), h 6 (by omega), h 25 (by omega), h0 1 (by omega), h0 2 (by omega), h0 22 (by omega), h0 23 (by omega), h0 25 (by omega), h' 1 (by omega), h' 10 (by omega), h' 11 (by omega)]
  exact ⟨T, G, R, x, x0, n, e7, e8, e25, e5, e6⟩
/-- an operation that only writes into what is used anew each time -/
theorem zDo_scr {nb nk ns nr nh t j u : Nat} {σ : zSg} {I I' I2 I2' : zTI} {J2 J2' : zTJ} {x y : Option zR} {r : Int32} (H : zSta nb nk ns nr nh t j u I I') (hx : x = some (some (.int r), (zSC σ, I2, J2))) (hy : y = some (some (.int r), (zSM, I2', J2'))) (h : ∀ i, i < 7 ∨ i = 25 ∨ 47 ≤ i → I2 i = I i) (h0 : ∀ k, k = 1 ∨ k = 2 ∨ k = 22 ∨ k = 23 ∨ k = 25 → I2' 0 k = I' 0 k) (h' : ∀ i, i = 1 ∨ i = 2 ∨ i = 4 ∨ i = 5 ∨ i = 10 ∨ i = 11 ∨ i = 18 ∨ i = 19 ∨ i = 20 → I2' i = I' i) : zDo nb nk ns nr nh t σ I I' x y :=
  ⟨r, I2, I2', J2, J2', hx, hy, ⟨j, u, zSta_cong H (fun i hi => h i (by omega)) h0 (fun i hi => h' i (by omega))⟩, ⟨fun i hi => h i (Or.inr (Or.inr hi)), by rw [h 0 (by omega)]⟩, ⟨fun i hi => h' i (by omega), h0 2 (by omega)⟩⟩
/-- a stop's depth -/
def zde (C : Nat → Int32) (d s : Nat) : Int32 := C (121 + 4 * s + d / 90 % 4)
theorem p_depW {w c : Nat} (hwc : zwc w c) {nb nk ns nr nh d s : Nat} {σ : zSg} {I : zTI} {J : zTJ} {S : Nat → Int32} (G : zGood nb nk ns nr nh (I c) S) (hd : d ≤ 9999) (ed : S 5 = nI d) (hs : s < ns) : qw_depthOf w (nI s) σ I J = some (some (.int (zde (I c) d s)), (zSC σ, I, J)) := by
  obtain ⟨⟨n0, n1, n2, n3, n4⟩, -, ⟨c0, c1, c2, c3, c4⟩, cD, -⟩ := id G.1
  exact p_depthOfW hwc hs n2 c2 (d := d) (by omega) (by rw [cD]; exact ed)
theorem p_depM {nb nk ns nr nh d s : Nat} {I : zTI} {J : zTJ} {C : Nat → Int32} (G : zGood nb nk ns nr nh C (I 10)) (hd : d ≤ 9999) (ed : I 10 5 = nI d) (hs : s < ns) : qm_depthOf (nI s) I J = some (some (.int (zde C d s + I 0 23)), (zSM, I, J)) := by
  obtain ⟨⟨n0, n1, n2, n3, n4⟩, -, -, -, -, -, hT, -⟩ := id G.1
  obtain ⟨n, g1, g4, en, ej⟩ := hT s hs
  rw [p_depthOf (s := s) (d := d) (n := n) (by omega) (by omega) ed g1 g4 en]
  unfold zde
  rw [ej _ (by omega)]
theorem zde_b {nb nk ns nr nh d s : Nat} {C S : Nat → Int32} (G : zGood nb nk ns nr nh C S) (hs : s < ns) : ∃ v, 1 ≤ v ∧ v ≤ 999 ∧ zde C d s = nI v := by
  obtain ⟨⟨n0, n1, n2, n3, n4⟩, -, -, -, -, -, hT, -⟩ := id G.1
  obtain ⟨n, g1, g4, en, ej⟩ := hT s hs
  obtain ⟨v, v1, v2, ev⟩ := G.2.2.2.1 s n hs g4 en (min (d / 90 % 4) (n - 1)) (by omega)
  refine ⟨v, v1, v2, ?_⟩
  unfold zde
  rw [ej _ (by omega), ev]
/-- the least of some -/
def zmn (f : Nat → Int32) (v : Int32) (x : Nat) : Nat → Int32
  | 0 => v
  | n + 1 => zmn f (if f x < v then f x else v) (x + 1) n
theorem u_uu (f : Nat → Int32) (a : Nat) (v w : Int32) : upd (upd f a v) a w = upd f a w := by
  funext j
  simp only [u_if]
  by_cases q : j = a
  · rw [if_pos q, if_pos q]
  · rw [if_neg q, if_neg q, if_neg q]
theorem p_find38 {nb nk ns nr nh d sp b : Nat} {σ : zSg} {I : zTI} {J : zTJ} {S : Nat → Int32} (G : zGood nb nk ns nr nh (I 3) S) (hd : d ≤ 9999) (ed : S 5 = nI d) (hs : sp < ns) : ∀ (n x : Nat) (v : Int32), x + n = sp + 1 → qe_find_38 (nI b) (nI sp) (nI x) σ (zrI I 19 (upd (I 19) 5 v)) J = qe_find_70 (nI b) 0 σ (zrI I 19 (upd (I 19) 5 (zmn (zde (I 3) d) v x n))) J
  | 0, x, v, e => by
    have := G.1.ns.2.2.1
    rw [t_qe_find_38, if_pos (nI_lt (by omega) (by omega))]
    rfl
  | n + 1, x, v, e => by
    have h8 := G.1.ns.2.2.1
    have G1 : zGood nb nk ns nr nh (zrI I 19 (upd (I 19) 5 v) 3) S := by
      rw [zrI_ne _ _ (by decide)]
      exact G
    rw [t_qe_find_38, if_neg (fun q => by have := (nI_ltI (by omega) (by omega)).mp q; omega), p_depW w2 G1 hd ed (by omega), zkI_s, zsI_zrI, zrI_zrI, zrI_row, u_uu, u_at, zrI_ne _ _ (by decide), nI_1, p_find38 G hd ed hs n (x + 1) _ (by omega)]
    rfl
theorem p_least21 {nb nk ns nr nh d sp : Nat} {I : zTI} {J : zTJ} {C : Nat → Int32} (G : zGood nb nk ns nr nh C (I 10)) (hd : d ≤ 9999) (ed : I 10 5 = nI d) (hin : I 0 23 = 0) (hs : sp < ns) : ∀ (n x : Nat) (v : Int32), x + n = sp + 1 → qm_leastDepth_21 (nI sp) v (nI x) I J = some (some (.int (zmn (zde C d) v x n)), (zSM, I, J))
  | 0, x, v, e => by
    have := G.1.ns.2.2.1
    rw [t_qm_leastDepth_21, if_pos (nI_lt (by omega) (by omega))]
    rfl
  | n + 1, x, v, e => by
    have h8 := G.1.ns.2.2.1
    rw [t_qm_leastDepth_21, if_neg (fun q => by have := (nI_ltI (by omega) (by omega)).mp q; omega), p_depM G hd ed (by omega), zkI_s, hin, z_add0, nI_1, p_depM G hd ed (by omega), zkI_s, hin, z_add0]
    unfold zmn
    by_cases q : zde C d x < v
    · rw [if_pos q, if_pos q]
      exact p_least21 G hd ed hin hs n (x + 1) _ (by omega)
    · rw [if_neg q, if_neg q]
      exact p_least21 G hd ed hin hs n (x + 1) _ (by omega)
theorem zbw_eq {v : Int32} {b : Nat} (hb : b < 2) : zbw v = nI b ↔ v = 100 + nI b := by
  unfold zbw
  rcases (show b = 0 ∨ b = 1 by omega) with rfl | rfl
  · by_cases h : v = 100
    · rw [if_pos h, h]; decide
    · rw [if_neg h]
      by_cases h1 : v = 101
      · rw [if_pos h1, h1]; decide
      · rw [if_neg h1]
        exact ⟨fun q => absurd q (by decide), fun q => absurd q h⟩
  · by_cases h : v = 100
    · rw [if_pos h, h]; decide
    · rw [if_neg h]
      by_cases h1 : v = 101
      · rw [if_pos h1, h1]; decide
      · rw [if_neg h1]
        exact ⟨fun q => absurd q (by decide), fun q => absurd q h1⟩
theorem p_heavyW {w c : Nat} (hwc : zwc w c) {k : Nat} (hk : k < 12) (σ : zSg) (I : zTI) (J : zTJ) : qw_heavy w (nI k) σ I J = some (some (.int (I c (97 + k) + I c (35 + k))), (zSC σ, I, J)) := by
  rw [t_qw_heavy w _ c hwc, pc97 hwc hk, zkI_s, pc35 hwc hk, zkI_s]
theorem p_armW {w c : Nat} (hwc : zwc w c) {b : Nat} {x : Int32} (hb : b < 2) (σ : zSg) (I : zTI) (J : zTJ) : qw_arm w (nI b) x σ I J = some (some (.int ((2 * x - I c (89 + b)) + 1)), (zSC σ, I, J)) := by
  rw [t_qw_arm w _ _ c hwc, pc89 hwc hb, zkI_s]
/-- the barge of any book, in the class -/
theorem p_bargeAny {w c : Nat} (hwc : zwc w c) {nb nk ns nr nh b k : Nat} {σ : zSg} {I : zTI} {J : zTJ} {S : Nat → Int32} (W : zWR nb nk ns nr nh (I c) S) (hb : b < 2) (hk : k < 12) : ∃ r, qw_bargeOf w (nI k) σ I J = some (some (.int r), (zSC σ, I, J)) ∧ (r = nI b ↔ (k < nk ∧ zab S b k = true)) := by
  obtain ⟨⟨n0, n1, n2, n3, n4⟩, -, ⟨c0, c1, c2, c3, c4⟩, cD, hB, hK, -⟩ := W
  by_cases q : k < nk
  · obtain ⟨-, -, -, -, k4, -⟩ := hK k q
    refine ⟨_, p_bargeOfW hwc c1 n1 q, ?_⟩
    rw [zbw_eq hb, k4]
    unfold zab
    rw [decide_eq_true_eq]
    exact ⟨fun h => ⟨q, h⟩, fun h => h.2⟩
  · refine ⟨_, p_bargeOfW0 hwc c1 (Or.inr ⟨znn (by omega), fun h => q ((nI_ltI (by omega) (by omega)).mp h)⟩), ?_⟩
    exact ⟨fun h => absurd h.symm (znm (by omega)), fun h => absurd h.1 q⟩
/-- the tilt that a book aboard makes -/
theorem z_turn {nb nk ns nr nh b k : Nat} {C S : Nat → Int32} (G : zGood nb nk ns nr nh C S) (hb : b < nb) (hk : k < nk) (ha : zab S b k = true) : (C (97 + k) + C (35 + k)) * ((2 * C (23 + k) - C (89 + b)) + 1) = ztl S b k ∧ C (97 + k) + C (35 + k) = zhv S k := by
  obtain ⟨-, -, -, -, hB, hK, -⟩ := id G.1
  obtain ⟨k0, -, k2, k3, k4, -⟩ := hK k hk
  obtain ⟨b0, -⟩ := hB b hb
  unfold ztl zhv zsh
  rw [k0, k2, k3, b0, if_pos (G.2.2.1 b k hb hk (of_decide_eq_true ha))]
  exact ⟨rfl, rfl⟩
set_option maxHeartbeats 2000000 in
theorem p_fill70 {nb nk ns nr nh b : Nat} {σ : zSg} {J : zTJ} {C S : Nat → Int32} (G : zGood nb nk ns nr nh C S) (hb : b < nb) : ∀ (d k : Nat) (I : zTI), k + d = 12 → I 3 = C → (∀ i, i < k → i < nk → I 20 i = (if zab S b i then zhv S i else 0) ∧ I 21 i = (if zab S b i then ztl S b i else 0) ∧ I 22 i = S (20 + 7 * i + 1)) → ∃ I2, qe_find_70 (nI b) (nI k) σ I J = qe_find_70 (nI b) (nI 12) σ I2 J ∧ (∀ i, i ≠ 20 → i ≠ 21 → i ≠ 22 → I2 i = I i) ∧ (∀ i, i < nk → I2 20 i = (if zab S b i then zhv S i else 0) ∧ I2 21 i = (if zab S b i then ztl S b i else 0) ∧ I2 22 i = S (20 + 7 * i + 1)) := by
  have n0 := G.1.ns.1
  have n1 := G.1.ns.2.1
  intro d
  induction d with
  | zero =>
    intro k I e eC F
    have ek : k = 12 := by omega
    subst ek
    exact ⟨I, rfl, fun _ _ _ _ => rfl, fun i hi => F i (by omega) hi⟩
  | succ d ih =>
    intro k I e eC F
    subst eC
    obtain ⟨r, e1, er⟩ := p_bargeAny w2 (σ := σ) (J := J) (k := k) (b := b) G.1 (by omega) (by omega)
    rw [t_qe_find_70, if_pos (show nI k < (12 : Int32) from nI_lt (b := 12) (by omega) (by decide)), e1, zkI_s]
    have nx : ∀ (v1 v2 v3 : Int32), (k < nk → v1 = (if zab S b k then zhv S k else 0) ∧ v2 = (if zab S b k then ztl S b k else 0) ∧ v3 = S (20 + 7 * k + 1)) → ∃ I2, qe_find_70 (nI b) (nI (k + 1)) σ (zrI (zrI (zrI I 20 (upd (I 20) k v1)) 21 (upd (I 21) k v2)) 22 (upd (I 22) k v3)) J = qe_find_70 (nI b) (nI 12) σ I2 J ∧ (∀ i, i ≠ 20 → i ≠ 21 → i ≠ 22 → I2 i = I i) ∧ (∀ i, i < nk → I2 20 i = (if zab S b i then zhv S i else 0) ∧ I2 21 i = (if zab S b i then ztl S b i else 0) ∧ I2 22 i = S (20 + 7 * i + 1)) := by
      intro v1 v2 v3 hv
      obtain ⟨I2, f1, f2, f3⟩ := ih (k + 1) (zrI (zrI (zrI I 20 (upd (I 20) k v1)) 21 (upd (I 21) k v2)) 22 (upd (I 22) k v3)) (by omega) (by rw [zrI_ne _ _ (by decide), zrI_ne _ _ (by decide), zrI_ne _ _ (by decide)]) (fun i hi hi2 => by
        rw [zrI_row, zrI_ne (b := 21) _ _ (by decide), zrI_row, zrI_ne (b := 20) _ _ (by decide), zrI_ne (b := 20) _ _ (by decide), zrI_row]
        by_cases q : i = k
        · subst q
          rw [u_at, u_at, u_at]
          exact hv hi2
        · rw [u_no q, u_no q, u_no q]
          exact F i (by omega) hi2)
      exact ⟨I2, f1, fun i h0 h1 h2 => by rw [f2 i h0 h1 h2, zrI_ne _ _ h2, zrI_ne _ _ h1, zrI_ne _ _ h0], f3⟩
    by_cases q : r = nI b
    · obtain ⟨hk, ha⟩ := er.mp q
      obtain ⟨t1, t2⟩ := z_turn G hb hk ha
      rw [if_pos q, p_heavyW w2 (by omega), zkI_s, zif_n (by omega) (by omega), zif_n (by omega) (by omega), pc23 w2 (by omega), zkI_s, p_armW w2 (by omega), zkI_s, zif_n (by omega) (by omega), pc109 w2 (by omega), zkI_s, zif_n (by omega) (by omega), ztnn (by omega), nI_1]
      simp only [zsI_zrI]
      rw [zrI_row, u_at, zrI_ne (b := 3) _ _ (by decide), zrI_ne (b := 3) _ _ (by decide), t1, t2, zrI_ne (b := 21) _ _ (by decide), zrI_ne (b := 22) _ _ (by decide), zrI_ne (b := 22) _ _ (by decide)]
      exact nx _ _ _ (fun _ => by rw [ha]; exact ⟨rfl, rfl, (id G.1).2.2.2.2.2.1 k hk |>.2.1⟩)
    · rw [if_neg q, zif_n (by omega) (by omega), zif_n (by omega) (by omega), pc23 w2 (by omega), zkI_s, p_armW w2 (by omega), zkI_s, zif_n (by omega) (by omega), pc109 w2 (by omega), zkI_s, zif_n (by omega) (by omega), ztnn (by omega), nI_1]
      simp only [zsI_zrI]
      rw [zrI_row, u_at, zrI_ne (b := 3) _ _ (by decide), zrI_ne (b := 3) _ _ (by decide), Int32.zero_mul, zrI_ne (b := 21) _ _ (by decide), zrI_ne (b := 22) _ _ (by decide), zrI_ne (b := 22) _ _ (by decide)]
      refine nx _ _ _ (fun hk => ?_)
      have ha : zab S b k = false := Bool.eq_false_iff.mpr (fun h => q (er.mpr ⟨hk, h⟩))
      rw [ha]
      exact ⟨rfl, rfl, (id G.1).2.2.2.2.2.1 k hk |>.2.1⟩
set_option maxHeartbeats 4000000 in
theorem o_left {nb nk ns nr nh t j u : Nat} {σ : zSg} {I I' : zTI} {J J' : zTJ} (H : zSta nb nk ns nr nh t j u I I') (x1 x2 x3 : Int32) : zDo nb nk ns nr nh t σ I I' (qb_left x1 x2 x3 σ I J) (qm_left x1 x2 x3 I' J') := by
  obtain ⟨T, G, -, -, -, hin, -⟩ := id H
  obtain ⟨⟨n0, n1, n2, n3, n4⟩, ⟨s0, s1, s2, s3, s4⟩, ⟨c0, c1, c2, c3, c4⟩, cD, hB, hK, -, hR, -⟩ := id G.1
  rw [t_qb_left, t_qm_left, t_qw_isFrom 2 _ _ 3 w2]
  rcases zcase x1 nb (by omega) with ⟨b, hb, rfl⟩ | h
  · rw [r1Barge w2 c0 n0 hb, zkI_s, if_neg z10, q1Barge s0 n0 hb, zkI_s, if_neg z10]
    rcases zcase x2 ns (by omega) with ⟨sp, hs, rfl⟩ | h
    · obtain ⟨-, -, b2, b3, -, b5, -⟩ := hB b hb
      obtain ⟨a, ha, ea⟩ := zk_g5 G.1.ns G.2.1 hb
      rw [r1Stop w2 c2 n2 hs, zkI_s, if_neg z10, q1Stop s2 n2 hs, zkI_s, if_neg z10, zy1, zif_n (by omega) (by omega), ztnn (by omega), pst (by omega), zkI_s, b5, ea]
      by_cases q1 : sp < a
      · rw [if_pos (nI_lt q1 (by omega)), zkI_s, if_pos rfl, if_neg (fun h => by have := (nI_ltI (by omega) (by omega)).mp h; omega)]
        exact zDo_same H ⟨_, rfl, rfl⟩
      · rw [if_neg (fun h => q1 ((nI_ltI (by omega) (by omega)).mp h)), zkI_s, if_neg z10, pc1 w2 (by omega), zkI_s, b5, ea]
        by_cases q2 : sp = a
        · subst q2
          rw [if_pos rfl, if_neg (fun h => by have := (nI_ltI (by omega) (by omega)).mp h; omega)]
          exact zDo_same H ⟨_, rfl, rfl⟩
        · rw [if_neg (fun h => q2 (znI (by omega) (by omega) h)), if_pos (nI_lt (by omega) (by omega)), p_in (x := x3) (hi := 1) 1 rfl, zkI_s]
          rcases zwhat x3 1 (by omega) with ⟨w, hw, rfl⟩ | q
          · obtain ⟨dy, hdy, edy⟩ := zk_day G.2.1
            rw [if_pos (zrange hw (by omega)), if_neg z10, if_neg (znn (by omega)), if_neg (show ¬ (1 : Int32) < nI w from fun h => by have := (nI_ltI (a := 1) (by decide) (by omega)).mp h; omega), p_aboardOf n1 s1, zkI_s, t_qm_leastDepth, pst (by omega), zkI_s, ea, nI_1, p_depM G hdy edy (by omega), zkI_s, hin, z_add0, pst (by omega), zkI_s, ea, show nI a + 2 = nI (a + 2) from nI_add a 2, p_least21 G hdy edy hin hs (sp - a - 1) (a + 2) _ (by omega), zkI_s]
            rw [t_qe_find, pc93 w2 (by omega), zkI_s, pc95 w2 (by omega), zkI_s, pc1 w2 (by omega), zkI_s]
            simp only [zsI_zrI, zrI_zrI, zrI_row]
            rw [zrI_ne (b := 3) _ _ (by decide), zrI_ne (b := 3) _ _ (by decide), b2, b3, b5, ea, nI_1]
            -- the depth
            obtain ⟨v, v1, v2, ev⟩ := zde_b (d := dy) G (show a + 1 < ns by omega)
            have Ga : zGood nb nk ns nr nh (zrI I 19 (upd (upd (I 19) 3 (I' 10 (6 + 7 * b + 2))) 4 (I' 10 (6 + 7 * b + 3))) 3) (I' 10) := by
              rw [zrI_ne _ _ (by decide)]
              exact G
            have f38 := p_find38 (σ := σ) (J := J) (b := b) (I := zrI I 19 (upd (upd (I 19) 3 (I' 10 (6 + 7 * b + 2))) 4 (I' 10 (6 + 7 * b + 3)))) Ga hdy edy hs (sp - a) (a + 1) 1000000000 (by omega)
            rw [zrI_zrI, zrI_row] at f38
            rw [f38, zrI_zrI, zrI_ne (b := 3) _ _ (by decide)]
            have em : zmn (zde (I 3) dy) 1000000000 (a + 1) (sp - a) = zmn (zde (I 3) dy) (zde (I 3) dy (a + 1)) (a + 2) (sp - a - 1) := by
              rw [show sp - a = (sp - a - 1) + 1 by omega]
              show zmn (zde (I 3) dy) (if zde (I 3) dy (a + 1) < 1000000000 then zde (I 3) dy (a + 1) else 1000000000) (a + 2) (sp - a - 1) = _
              rw [if_pos (show zde (I 3) dy (a + 1) < (1000000000 : Int32) by rw [ev]; exact nI_lt (b := 1000000000) (by omega) (by decide)), Nat.add_sub_cancel]
            rw [em]
            generalize zmn (zde (I 3) dy) (zde (I 3) dy (a + 1)) (a + 2) (sp - a - 1) = dep
            -- the rows
            obtain ⟨I2, f1, f2, f3⟩ := p_fill70 (σ := σ) (J := J) G hb 12 0 (zrI I 19 (upd (upd (upd (I 19) 3 (I' 10 (6 + 7 * b + 2))) 4 (I' 10 (6 + 7 * b + 3))) 5 dep)) (by omega) (by rw [zrI_ne _ _ (by decide)]) (fun i hi => absurd hi (by omega))
            have f1' : qe_find_70 (nI b) 0 σ (zrI I 19 (upd (upd (upd (I 19) 3 (I' 10 (6 + 7 * b + 2))) 4 (I' 10 (6 + 7 * b + 3))) 5 dep)) J = _ := f1
            have i3 : I2 3 = I 3 := by rw [f2 3 (by decide) (by decide) (by decide), zrI_ne _ _ (by decide)]
            have i19 : I2 19 = upd (upd (upd (I 19) 3 (I' 10 (6 + 7 * b + 2))) 4 (I' 10 (6 + 7 * b + 3))) 5 dep := by rw [f2 19 (by decide) (by decide) (by decide), zrI_row]
            have eLh : zrI I2 19 (upd (upd (upd (I2 19) 7 1000000000) 6 0) 8 (-1)) = zLh nk (zwN (I' 10)) I2 none := rfl
            have G2 : zGood nb nk ns nr nh (zLh nk (zwN (I' 10)) I2 none 3) (I' 10) := by
              rw [zLh_r (by decide), i3]
              exact G
            rw [f1', t_qe_find_70, if_neg (show ¬ nI 12 < (12 : Int32) by decide)]
            simp only [zsI_zrI, zrI_zrI, zrI_row]
            rw [eLh, pc85 w2, zkI_s, p_loadOf w2 (by omega) n1 G2.1.2.2.1.2.1, zkI_s, p_tiltOf w2 (by omega) n1 G2.1.2.2.1.2.1, zkI_s, G2.1.2.2.1.2.1, z_loads G2.1 hb, z_tilts G2.1 G2.wb hb, a_es n1 (by omega)]
            obtain ⟨g2, g3⟩ := G.wb.1 b hb
            have ps := p_esearch (σ := σ) (J := J) (I0 := I2) (b := b) (L := zload (I' 10) nk b (zset (zab (I' 10) b) nk)) (T := ztilt (I' 10) nk b (zset (zab (I' 10) b) nk)) (dep := dep) (st := I' 10 (6 + 7 * b + 2)) (le := I' 10 (6 + 7 * b + 3)) G.1.ns G.2.1 f3 (by rw [i19, u_no (by decide), u_no (by decide), u_at]) (by rw [i19, u_no (by decide), u_at]) (by rw [i19, u_at]) g2 g3 nk 0 none (Nat.le_refl nk) (fun i _ h => by rw [zms_zero] at h; cases h)
            rw [zsum_none nk (fun i _ => zms_zero nk i), zsum_none nk (fun i _ => zms_zero nk i), show zsN (zwN (I' 10)) (zms nk 0) nk = 0 from by rw [zsN_congr nk (q := fun _ => false) (fun i _ => zms_zero nk i)]; exact zsN_zero nk, zcnt_N, zsN_congr nk (q := fun _ => false) (fun i _ => zms_zero nk i), zsN_zero nk, Nat.zero_mul] at ps
            rw [show qe_search (2 + nk) (nI nk - 1) (zload (I' 10) nk b (zset (zab (I' 10) b) nk)) (ztilt (I' 10) nk b (zset (zab (I' 10) b) nk)) 0 0 0 σ (zLh nk (zwN (I' 10)) I2 none) J = _ from ps, zkV_s, zLh_8]
            have pm := p_leftM (J := J') (x := nI w) (dep := dep) G.1.ns G.2.1 s1 hb (2 ^ nk) 0 (by omega)
            rw [show qm_left_62 (nI b) (nI w) (zset (zab (I' 10) b) nk) dep (-2) 0 0 I' J' = _ from pm]
            rw [zdfs_fo, Nat.zero_mul]
            have hl := zlst_lt (nk := nk) (ab := zab (I' 10) b) (w := zwN (I' 10)) (ok := (fun m => !decide (dep < zdr (zsum (fun i => -(zhv (I' 10) i)) m.testBit (zload (I' 10) nk b (zset (zab (I' 10) b) nk)) nk) (zsum (fun i => -(ztl (I' 10) b i)) m.testBit (ztilt (I' 10) nk b (zset (zab (I' 10) b) nk)) nk) (I' 10 (6 + 7 * b + 2)) (I' 10 (6 + 7 * b + 3))))) (2 ^ nk)
            generalize zfo _ 0 (2 ^ nk) none = s at hl ⊢
            have keep : ∀ i, i < 7 ∨ i = 25 ∨ 47 ≤ i → zLh nk (zwN (I' 10)) I2 s i = I i := fun i hi => by
              rw [zLh_r (by omega), f2 i (by omega) (by omega) (by omega), zrI_ne _ _ (by omega)]
            have hp := z_pow12 n1
            cases s with
            | none =>
              rw [show zL8 none = -1 from rfl, if_pos rfl, zkI_s, if_pos rfl]
              exact zDo_scr H rfl rfl keep (fun _ _ => rfl) (fun _ _ => rfl)
            | some q =>
              have hq := hl q rfl
              rw [show zL8 (some q) = nI q from rfl, if_neg (znm (by omega)), zkI_s, if_neg z10, zLh_7, zLh_8]
              rcases (show w = 0 ∨ w = 1 by omega) with rfl | rfl
              · rw [if_pos (show nI 0 = 0 from rfl)]
                exact zDo_scr H rfl rfl keep (fun _ _ => rfl) (fun _ _ => rfl)
              · rw [if_neg (show ¬ nI 1 = 0 by decide)]
                exact zDo_scr H rfl rfl keep (fun _ _ => rfl) (fun _ _ => rfl)
          · rw [if_neg q, if_pos rfl]
            by_cases q3 : x3 < 0
            · rw [if_pos q3]
              exact zDo_same H ⟨_, rfl, rfl⟩
            · rw [if_neg q3, if_pos]
              · exact zDo_same H ⟨_, rfl, rfl⟩
              · obtain ⟨v, rfl, hv⟩ := zof q3
                rw [nI_toInt hv] at q
                exact nI_lt (a := 1) (by omega) hv
    · rw [r0Stop w2 c2 h, zkI_s, if_pos rfl, zkI_s, if_pos rfl, q0Stop s2 h, zkI_s, if_pos rfl]
      exact zDo_same H ⟨_, rfl, rfl⟩
  · rw [r0Barge w2 c0 h, zkI_s, if_pos rfl, zkI_s, if_pos rfl, q0Barge s0 h, zkI_s, if_pos rfl]
    exact zDo_same H ⟨_, rfl, rfl⟩
