/-! ===== room ===== -/
def zdn (f : Nat → Bool) : Nat → Nat
  | 0 => 0
  | w + 1 => if f (w + 1) = true then zdn f w else w + 1
theorem zdn_t {f : Nat → Bool} {w : Nat} (h : f (w + 1) = true) : zdn f (w + 1) = zdn f w := if_pos h
theorem zdn_f {f : Nat → Bool} {w : Nat} (h : ¬ f (w + 1) = true) : zdn f (w + 1) = w + 1 := if_neg h
theorem zdn_skip {f : Nat → Bool} {w : Nat} : ∀ d, (∀ v, w < v → v ≤ w + d → f v = true) → zdn f (w + d) = zdn f w
  | 0, _ => rfl
  | d + 1, h => by
    show (if f (w + d + 1) = true then zdn f (w + d) else w + d + 1) = _
    rw [if_pos (h (w + d + 1) (by omega) (by omega)), zdn_skip d (fun v h1 h2 => h v h1 (by omega))]
theorem p_room68 {nb nk ns nr nh d b a : Nat} {I : zTI} {J : zTJ} {C : Nat → Int32} {L T x2 : Int32} (G : zGood nb nk ns nr nh C (I 10)) (hd : d ≤ 9999) (ed : I 10 5 = nI d) (hin : I 0 23 = 0) (hb : b < nb) (ha : a < ns) (h0 : ¬ zde C d a < zdr (L + nI 0) (T + nI 0 * (((2 * x2) - I 10 (6 + 7 * b + 0)) + 1)) (I 10 (6 + 7 * b + 2)) (I 10 (6 + 7 * b + 3))) : ∀ w, w ≤ 999 → qm_room_68 (nI b) x2 (nI a) L T (nI w) I J = some (some (.int (nI (zdn (fun w => decide (zde C d a < zdr (L + nI w) (T + nI w * (((2 * x2) - I 10 (6 + 7 * b + 0)) + 1)) (I 10 (6 + 7 * b + 2)) (I 10 (6 + 7 * b + 3)))) w))), (zSM, I, J))
  | 0, _ => by
    have n0 := G.1.ns.1
    obtain ⟨g2, g3⟩ := G.wb.1 b hb
    rw [t_qm_room_68, p_arm (by omega), zkI_s, p_draughtOf (by omega) (fun e => g2 (by rw [e]; decide)) (fun e => g3 (by rw [e]; decide)), zkI_s, p_depM G hd ed ha, zkI_s, hin, z_add0, if_neg h0]
    rfl
  | w + 1, hw => by
    have n0 := G.1.ns.1
    obtain ⟨g2, g3⟩ := G.wb.1 b hb
    have e1 : nI (w + 1) + (-1) = nI w := by rw [← nI_1]; grind
    rw [t_qm_room_68, p_arm (by omega), zkI_s, p_draughtOf (by omega) (fun e => g2 (by rw [e]; decide)) (fun e => g3 (by rw [e]; decide)), zkI_s, p_depM G hd ed ha, zkI_s, hin, z_add0, e1, p_room68 G hd ed hin hb ha h0 w (by omega)]
    by_cases q : zde C d a < zdr (L + nI (w + 1)) (T + nI (w + 1) * (((2 * x2) - I 10 (6 + 7 * b + 0)) + 1)) (I 10 (6 + 7 * b + 2)) (I 10 (6 + 7 * b + 3))
    · rw [if_pos q, zdn_t (decide_eq_true q)]
    · rw [if_neg q, zdn_f (by rw [decide_eq_false q]; decide)]
theorem p_roomW55 {σ : zSg} {I : zTI} {J : zTJ} {dep L T arm st le : Int32} (h3 : ¬ st < 1) (h4 : ¬ le < 1) : ∀ w, w ≤ 999 → qw_roomOn_55 dep L T arm st le (nI w) σ I J = some (some (.int (nI (zdn (fun w => decide (dep < zdr (L + nI w) (T + nI w * arm) st le)) w))), (zSC σ, I, J))
  | 0, _ => by
    rw [t_qw_roomOn_55 _ _ _ _ _ _ _ 2 3 w2, if_neg (show ¬ (0 : Int32) < nI 0 by decide)]
    rfl
  | w + 1, hw => by
    have e1 : nI (w + 1) + (-1) = nI w := by rw [← nI_1]; grind
    rw [t_qw_roomOn_55 _ _ _ _ _ _ _ 2 3 w2, if_pos (show (0 : Int32) < nI (w + 1) from nI_lt (a := 0) (by omega) (by omega)), p_draughtByW w2 h3 h4, zkI_s, e1, p_roomW55 h3 h4 w (by omega)]
    by_cases q : dep < zdr (L + nI (w + 1)) (T + nI (w + 1) * arm) st le
    · rw [if_pos q, zdn_t (decide_eq_true q)]
    · rw [if_neg q, zdn_f (by rw [decide_eq_false q]; decide)]
set_option maxHeartbeats 2000000 in
theorem o_room {nb nk ns nr nh t j u : Nat} {σ : zSg} {I I' : zTI} {J J' : zTJ} (H : zSta nb nk ns nr nh t j u I I') (x1 x2 : Int32) : zDo nb nk ns nr nh t σ I I' (qb_room x1 x2 σ I J) (qm_room x1 x2 I' J') := by
  obtain ⟨T, G, -, -, -, hin, -⟩ := id H
  obtain ⟨⟨n0, n1, n2, n3, n4⟩, ⟨s0, s1, s2, s3, s4⟩, ⟨c0, c1, c2, c3, c4⟩, cD, hB, hK, hT, hR, -⟩ := id G.1
  rw [t_qb_room, t_qm_room]
  rcases zcase x1 nb (by omega) with ⟨b, hb, rfl⟩ | h
  · obtain ⟨r, e1, e2, er⟩ := p_shelf w2 (σ := σ) (J := J) (J' := J') G.1 hb x2
    rw [e1, zkI_s, e2, zkI_s]
    rcases er with ⟨rfl, y0, y1⟩ | rfl
    · obtain ⟨b0, -, b2, b3, -, b5, -⟩ := hB b hb
      obtain ⟨a, ha, ea⟩ := zk_g5 G.1.ns G.2.1 hb
      obtain ⟨dy, hdy, edy⟩ := zk_day G.2.1
      rw [if_neg z10, if_neg z10, pc1 w2 (by omega), zkI_s, pst (by omega), zkI_s, b5, ea, nI_1]
      by_cases qs : a + 1 < ns
      · rw [r1Stop w2 c2 n2 qs, zkI_s, if_neg z10, q1Stop s2 n2 qs, zkI_s, if_neg z10]
        obtain ⟨n, g1, g4, en, ej⟩ := hT (a + 1) qs
        obtain ⟨g2, g3⟩ := G.wb.1 b hb
        have ez : I' 10 (104 + 5 * (a + 1) + 1 + min (dy / 90 % 4) (n - 1)) = zde (I 3) dy (a + 1) := by
          unfold zde
          rw [ej _ (by omega)]
        rw [p_passesW G.1 G.wb (d := dy) ⟨edy, hdy⟩ hb qs ej, zkI_s, p_passesNow (s := a + 1) (d := dy) (n := n) (by omega) (by omega) edy g1 g4 en (by omega) n1 s1 (fun e => g2 (by rw [e]; decide)) (fun e => g3 (by rw [e]; decide)), zkI_s, hin, z_add0, ez]
        by_cases qp : zde (I 3) dy (a + 1) < zdrB (I' 10) nk b (zset (zab (I' 10) b) nk)
        · rw [if_pos qp, if_pos rfl, if_pos rfl]
          exact zDo_same H ⟨_, rfl, rfl⟩
        · rw [if_neg qp, if_neg z10, if_neg z10, p_depW w2 G hdy edy qs, zkI_s, p_aboardOf n1 s1, zkI_s, show qm_loadBy (nI b) (zset (zab (I' 10) b) nk) I' J' = some (some (.int (zload (I' 10) nk b (zset (zab (I' 10) b) nk))), (zSM, I', J')) from p_loadBy (by omega) n1 s1, zkI_s, p_aboardOf n1 s1, zkI_s, show qm_tiltBy (nI b) (zset (zab (I' 10) b) nk) I' J' = some (some (.int (ztilt (I' 10) nk b (zset (zab (I' 10) b) nk))), (zSM, I', J')) from p_tiltBy (by omega) n1 s1, zkI_s]
          rw [t_qw_roomOn 2 _ _ _ 3 w2, p_loadOf w2 (by omega) n1 c1, zkI_s, p_tiltOf w2 (by omega) n1 c1, zkI_s, p_armW w2 (by omega), zkI_s, pc93 w2 (by omega), zkI_s, pc95 w2 (by omega), zkI_s, z_loads G.1 hb, z_tilts G.1 G.wb hb, b0, b2, b3]
          -- numbers
          obtain ⟨st, st1, st2, es⟩ := zk_g2 G.1.ns G.2.1 hb
          obtain ⟨le, le1, le2, el⟩ := zk_g3 G.1.ns G.2.1 hb
          obtain ⟨sh, sh1, sh2, esh⟩ := zk_g0 G.1.ns G.2.1 hb
          obtain ⟨eL, hL⟩ := zload_N G.1.ns G.2.1 hb (zset (zab (I' 10) b) nk)
          obtain ⟨tn, htn, etn⟩ := ztilt_b G.1.ns G.2.1 hb (zset (zab (I' 10) b) nk)
          obtain ⟨v, v1, v2, ev⟩ := zde_b (d := dy) G qs
          obtain ⟨x, rfl, hx⟩ := zof y0
          rw [esh] at y1
          have hxs : x < sh := (nI_ltI hx (by omega)).mp y1
          unfold zdrB at qp
          rw [eL, es, el, ev] at qp
          rw [eL, es, el, ev, esh]
          generalize zlN (I' 10) nk b (bt (zset (zab (I' 10) b) nk)) = l at *
          generalize ztilt (I' 10) nk b (zset (zab (I' 10) b) nk) = tl at *
          have hvs : v * st ≤ 999 * 99 := Nat.mul_le_mul v2 st2
          have hl : l ≤ v * st := by
            rw [zdr_e (t := tn) (by omega) (by omega) st1 st2 le1 le2 etn] at qp
            have h1 := Nat.div_le_self (l + st - 1) st
            have h2 := Nat.div_le_self tn le
            have h3 : ¬ v < (l + st - 1) / st + tn / le := fun h => qp (nI_lt h (by
              generalize (l + st - 1) / st = A at *
              generalize tn / le = B at *
              omega))
            have h4 : (l + st - 1) / st < v + 1 := by
              generalize (l + st - 1) / st = A at *
              generalize tn / le = B at *
              omega
            rw [Nat.div_lt_iff_lt_mul (by omega), Nat.add_mul] at h4
            omega
          have a1 : (nI x).toInt = (x : Int) := nI_toInt (by omega)
          have a2 : (2 * nI x : Int32).toInt = 2 * (x : Int) := zti_mul rfl a1 (by omega) (by omega)
          have a3 : (2 * nI x - nI sh : Int32).toInt = 2 * (x : Int) - sh := zti_sub a2 (nI_toInt (by omega)) (by omega) (by omega)
          have a4 : (2 * nI x - nI sh + 1 : Int32).toInt = 2 * (x : Int) - sh + 1 := zti_add a3 rfl (by omega) (by omega)
          generalize hA : (2 * nI x - nI sh + 1 : Int32) = arm at *
          have tb : ∀ w : Nat, w ≤ 999 → -(20000 : Int) ≤ (tl + nI w * arm).toInt ∧ (tl + nI w * arm).toInt ≤ 20000 := fun w hw => by
            have m1 : -(6993 : Int) ≤ (w : Int) * arm.toInt ∧ (w : Int) * arm.toInt ≤ 6993 := by
              rw [a4]
              have u1 : (w : Int) * (2 * (x : Int) - sh + 1) ≤ 999 * 7 := by
                rcases Int.le_total 0 (2 * (x : Int) - sh + 1) with q | q
                · exact Int.mul_le_mul (by omega) (by omega) q (by omega)
                · have := Int.mul_nonpos_of_nonneg_of_nonpos (show (0 : Int) ≤ w by omega) q
                  omega
              have u2 : (w : Int) * (-(2 * (x : Int) - sh + 1)) ≤ 999 * 7 := by
                rcases Int.le_total 0 (2 * (x : Int) - sh + 1) with q | q
                · have := Int.mul_nonpos_of_nonneg_of_nonpos (show (0 : Int) ≤ w by omega) (show -(2 * (x : Int) - sh + 1) ≤ 0 by omega)
                  omega
                · exact Int.mul_le_mul (by omega) (by omega) (by omega) (by omega)
              rw [Int.mul_neg] at u2
              omega
            have m2 : (nI w * arm).toInt = (w : Int) * arm.toInt := zti_mul (nI_toInt (by omega)) rfl (by omega) (by omega)
            rw [zti_add rfl m2 (by omega) (by omega)]
            omega
          have f0 : ¬ nI v < zdr (nI l + nI 0) (tl + nI 0 * arm) (nI st) (nI le) := by
            rw [nI_add, Nat.add_zero, show nI 0 * arm = 0 from Int32.zero_mul, Int32.add_zero]
            exact qp
          have pm := p_room68 (J := J') (L := nI l) (T := tl) (x2 := nI x) (a := a + 1) G hdy edy hin hb qs (by rw [ev, es, el, esh, hA]; exact f0) 999 (by omega)
          rw [ev, es, el, esh, hA] at pm
          rw [show qm_room_68 (nI b) (nI x) (nI (a + 1)) (nI l) tl 999 I' J' = _ from pm]
          have e5 : nI v * nI st - nI l = nI (v * st - l) := by
            rw [show nI v * nI st = nI (v * st) from (Int32.ofNat_mul v st).symm]
            apply Int32.toInt_inj.mp
            rw [zti_sub (nI_toInt (by omega)) (nI_toInt (by omega)) (by omega) (by omega), nI_toInt (by omega)]
            omega
          have skip : ∀ w0, w0 ≤ 999 → (w0 = 999 ∨ w0 = v * st - l) → zdn (fun w => decide (nI v < zdr (nI l + nI w) (tl + nI w * arm) (nI st) (nI le))) 999 = zdn (fun w => decide (nI v < zdr (nI l + nI w) (tl + nI w * arm) (nI st) (nI le))) w0 := by
            intro w0 h9 hw0
            have := zdn_skip (f := fun w => decide (nI v < zdr (nI l + nI w) (tl + nI w * arm) (nI st) (nI le))) (w := w0) (999 - w0) (fun w h1 h2 => by
              rcases hw0 with hw0 | hw0
              · omega
              · have tb' := tb w (by omega)
                refine decide_eq_true ?_
                rw [nI_add, zdr_e (t := (tl + nI w * arm).toInt.natAbs) (by omega) (by omega) st1 st2 le1 le2 (by omega)]
                have hq : v + 1 ≤ (l + w + st - 1) / st := by
                  rw [Nat.le_div_iff_mul_le (by omega), Nat.add_mul]
                  omega
                have q1 := Nat.div_le_self (l + w + st - 1) st
                have q2 := Nat.div_le_self (tl + nI w * arm).toInt.natAbs le
                generalize (l + w + st - 1) / st = A at *
                generalize (tl + nI w * arm).toInt.natAbs / le = B at *
                exact nI_lt (by omega) (by omega))
            rw [show w0 + (999 - w0) = 999 by omega] at this
            exact this
          have st' : ¬ nI st < 1 := fun q => by have := (nI_ltI (b := 1) (by omega) (by decide)).mp q; omega
          have le' : ¬ nI le < 1 := fun q => by have := (nI_ltI (b := 1) (by omega) (by decide)).mp q; omega
          rw [e5]
          by_cases q9 : v * st - l < 999
          · rw [if_pos (show nI (v * st - l) < (999 : Int32) from nI_lt (b := 999) q9 (by decide)), p_roomW55 st' le' _ (by omega), zkI_s, ← skip (v * st - l) (by omega) (Or.inr rfl)]
            exact zDo_same H ⟨_, rfl, rfl⟩
          · rw [if_neg (show ¬ nI (v * st - l) < (999 : Int32) from fun h => q9 ((nI_ltI (b := 999) (by omega) (by decide)).mp h)), show qw_roomOn_55 (nI v) (nI l) tl arm (nI st) (nI le) 999 σ I J = _ from p_roomW55 st' le' 999 (by omega), zkI_s]
            exact zDo_same H ⟨_, rfl, rfl⟩
      · have no : nI (a + 1) < 0 ∨ ¬ nI (a + 1) < 0 ∧ ¬ nI (a + 1) < nI ns := Or.inr ⟨znn (by omega), fun h => qs ((nI_ltI (by omega) (by omega)).mp h)⟩
        rw [r0Stop w2 c2 no, zkI_s, if_pos rfl, q0Stop s2 no, zkI_s, if_pos rfl]
        exact zDo_same H ⟨_, rfl, rfl⟩
    · rw [if_pos rfl, if_pos rfl]
      exact zDo_same H ⟨_, rfl, rfl⟩
  · rw [t_qw_hasShelf 2 _ _ 3 w2, r0Barge w2 c0 h, zkI_s, if_pos rfl, zkI_s, if_pos rfl, t_qm_isShelf, q0Barge s0 h, zkI_s, if_pos rfl, zkI_s, if_pos rfl]
    exact zDo_same H ⟨_, rfl, rfl⟩
