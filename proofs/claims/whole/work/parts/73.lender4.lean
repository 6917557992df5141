/-! ===== lending, dear: both ===== -/
/-- what is noted of the readers from r on -/
def zQ7 (S : Nat → Int32) (nk nr b a sp : Nat) (x : Int32) (am : Nat → Nat) (r : Nat) (I : zTI) : Prop := am 6 = 0 ∧ (∀ r', r ≤ r' → r' ≤ 6 → I 25 r' = nI (am r')) ∧ (∀ r', r ≤ r' → r' < 6 → (am (r' + 1) ≤ am r' ∧ am r' ≤ am (r' + 1) + 99) ∧ (∀ k, k < 12 → zgn S nk nr b a sp x r' k + am (r' + 1) ≤ am r') ∧ (am (r' + 1) < am r' → r' < nr) ∧ (∀ k, k < 12 → I 24 (12 * r' + k) = nI (zgn S nk nr b a sp x r' k)) ∧ (r' < nr → I 26 r' = nI (zhm S r')) ∧ I 32 r' = -1)
set_option maxHeartbeats 4000000 in
theorem p_most177 {nb nk ns nr nh b a sp : Nat} {σ : zSg} {J : zTJ} {C S : Nat → Int32} {x : Int32} (G : zGood nb nk ns nr nh C S) (ha : a < ns) (hsp : sp < ns) : ∀ (r : Nat) (I : zTI) (am : Nat → Nat), r ≤ 6 → I 3 = C → I 23 11 = nI a → I 23 12 = nI sp → (∀ i, i < 12 → I 27 i = (if i < nk ∧ zab S b i = true then zhv S i else 0)) → zQ7 S nk nr b a sp x am r I → ∃ I1 am1, qd_mostCoins_177 x (nI r - 1) σ I J = qd_mostCoins_177 x (-1) σ I1 J ∧ (∀ i, i ≠ 24 → i ≠ 25 → i ≠ 26 → i ≠ 32 → i ≠ 33 → I1 i = I i) ∧ zQ7 S nk nr b a sp x am1 0 I1 := by
  intro r
  induction r with
  | zero =>
    intro I am hr eC f11 f12 h27 Q
    exact ⟨I, am, by rw [show nI 0 - 1 = (-1 : Int32) from by decide], fun _ _ _ _ _ _ => rfl, Q⟩
  | succ r ih =>
    intro I am hr eC f11 f12 h27 Q
    subst eC
    obtain ⟨q0, q1, q2⟩ := Q
    have ek : nI (r + 1) - 1 = nI r := by rw [← nI_1]; exact Int32.add_sub_cancel _ _
    have amb : ∀ m r', r' + m = 6 → r + 1 ≤ r' → am r' ≤ 99 * m := by
      intro m
      induction m with
      | zero => intro r' e _; rw [show r' = 6 by omega, q0]; omega
      | succ m ih =>
        intro r' e h
        have := ih (r' + 1) (by omega) (by omega)
        have := (q2 r' h (by omega)).1.2
        omega
    have ab := amb (6 - (r + 1)) (r + 1) (by omega) (Nat.le_refl _)
    rw [ek, t_qd_mostCoins_177, if_neg (znn (by omega)), nI_1, zif_n (by omega) (by omega), ztnn (show r + 1 < 2 ^ 31 by omega), ztnn (show r < 2 ^ 31 by omega), q1 (r + 1) (Nat.le_refl _) (by omega), show nI r + (-1) = nI r - 1 from (Int32.sub_eq_add_neg _ _).symm]
    have go : ∀ (out : Int32), out = (if nI r = x then 1 else 0) → ∃ I1 am1, (zkI (qd_noteGains (nI r) out σ I J) (zSC σ) (fun r5 I3 J4 => (zif (zin (nI r) 7) (zif (zin (nI r) 6) (zif (zin (nI r) 6) (qd_mostCoins_177 x (nI r - 1) σ (zsI (zsI (zsI I3 25 r (nI (am (r + 1)) + r5)) 32 r (-1)) 33 r (-1)) J4)))))) = qd_mostCoins_177 x (-1) σ I1 J ∧ (∀ i, i ≠ 24 → i ≠ 25 → i ≠ 26 → i ≠ 32 → i ≠ 33 → I1 i = I i) ∧ zQ7 S nk nr b a sp x am1 0 I1 := by
      intro out hout
      obtain ⟨I3, mo, g1, g2, g3, g4, g5, g6, g7, g8⟩ := p_noteG (σ := σ) (J := J) (b := b) (a := a) (sp := sp) (x := x) (out := out) G (show r < 6 by omega) ha hsp hout f11 f12 h27
      rw [g1, zkI_s, zif_n (by omega) (by omega), zif_n (by omega) (by omega), zif_n (by omega) (by omega), nI_add]
      have keep : ∀ i, i ≠ 25 → i ≠ 32 → i ≠ 33 → (zsI (zsI (zsI I3 25 r (nI (am (r + 1) + mo))) 32 r (-1)) 33 r (-1)) i = I3 i := fun i a1 a2 a3 => by rw [zsI_ne _ _ _ a3, zsI_ne _ _ _ a2, zsI_ne _ _ _ a1]
      obtain ⟨I1, am1, k1, k2, k3⟩ := ih (zsI (zsI (zsI I3 25 r (nI (am (r + 1) + mo))) 32 r (-1)) 33 r (-1)) (zup1 am r (am (r + 1) + mo)) (by omega) (by rw [keep 3 (by decide) (by decide) (by decide), g2 3 (by decide) (by decide)]) (by rw [keep 23 (by decide) (by decide) (by decide), g2 23 (by decide) (by decide)]; exact f11) (by rw [keep 23 (by decide) (by decide) (by decide), g2 23 (by decide) (by decide)]; exact f12) (fun i hi => by rw [keep 27 (by decide) (by decide) (by decide), g2 27 (by decide) (by decide)]; exact h27 i hi) ⟨by rw [zup1_no (by omega)]; exact q0, fun r' h1 h2 => by
          rw [zsI_ne (b := 25) _ _ _ (by decide), zsI_ne (b := 25) _ _ _ (by decide)]
          by_cases q : r' = r
          · subst q
            rw [zsI_at, zup1_at]
          · rw [zsI_no _ _ _ q, zup1_no q, g2 25 (by decide) (by decide)]
            exact q1 r' (by omega) h2, fun r' h1 h2 => by
          rw [keep 24 (by decide) (by decide) (by decide), keep 26 (by decide) (by decide) (by decide), zsI_ne (b := 32) _ _ _ (by decide)]
          rw [zup1_no (show r' + 1 ≠ r by omega)]
          by_cases q : r' = r
          · subst q
            rw [zup1_at, zsI_at]
            refine ⟨by omega, fun k hk => ?_, fun h => ?_, fun k hk => (g4 k hk).1, fun hn => ?_, rfl⟩
            · have := (g4 k hk).2
              omega
            · by_cases hn : r' < nr
              · exact hn
              · have := g6 hn
                omega
            · rw [g8, (G.1.2.2.2.2.2.2.2.1 r' hn).1]
              exact (zhm_e G.1.ns G.2.1 hn).1
          · obtain ⟨b1, b2, b3, b4, b5, b6⟩ := q2 r' (by omega) h2
            rw [zup1_no q, zsI_no _ _ _ q, zsI_ne (b := 32) _ _ _ (by decide), g2 32 (by decide) (by decide), g7 r' q]
            exact ⟨b1, b2, b3, fun k hk => by rw [g3 (12 * r' + k) (by omega)]; exact b4 k hk, b5, b6⟩⟩
      exact ⟨I1, am1, k1, fun i a1 a2 a3 a4 a5 => by rw [k2 i a1 a2 a3 a4 a5, keep i a2 a4 a5, g2 i a1 a3], k3⟩
    by_cases qx : nI r = x
    · rw [if_pos qx]
      have := go 1 (by rw [if_pos qx])
      exact this
    · rw [if_neg qx]
      have := go 0 (by rw [if_neg qx])
      exact this
set_option maxHeartbeats 4000000 in
theorem p_mostC {nb nk ns nr nh b a sp dy : Nat} {σ : zSg} {I : zTI} {J : zTJ} {S : Nat → Int32} {x e : Int32} (G : zGood nb nk ns nr nh (I 3) S) (hb : b < nb) (ea : S (6 + 7 * b + 5) = nI a) (has : a ≤ sp) (hsp : sp < ns) (hdy : dy ≤ 9999) (edy : S 5 = nI dy) (h25 : I 25 6 = 0) : ∃ I1, qd_mostCoins (nI b) (nI sp) e x σ I J = some (some (.int (I1 23 10)), (zSC σ, I1, J)) ∧ (∀ i, i < 23 ∨ 34 ≤ i → I1 i = I i) ∧ I1 25 6 = 0 ∧ zDs S nr (zen (zls_ (I 3) S dy e nk nr b a sp x) (nk + 1) nr nr (fun _ => 0) none) I1 := by
  obtain ⟨⟨n0, n1, n2, n3, n4⟩, ⟨s0, s1, s2, s3, s4⟩, ⟨c0, c1, c2, c3, c4⟩, cD, hB, hK, -, hR, -⟩ := id G.1
  obtain ⟨-, -, b2, b3, -, b5, -⟩ := hB b hb
  have i3 : ∀ f, zrI I 23 f 3 = I 3 := fun f => zrI_ne _ _ (by decide)
  have G1 : ∀ f, zGood nb nk ns nr nh (zrI I 23 f 3) S := fun f => by rw [i3]; exact G
  rw [t_qd_mostCoins, pc1 w2 (by omega), zkI_s, b5, ea]
  simp only [zsI_zrI, zrI_zrI, zrI_row]
  rw [p_loadOf w2 (by omega) n1 (G1 _).1.2.2.1.2.1, zkI_s]
  simp only [zrI_zrI, zrI_row]
  rw [p_tiltOf w2 (by omega) n1 (G1 _).1.2.2.1.2.1, zkI_s]
  simp only [zrI_zrI, zrI_row]
  rw [pc93 w2 (by omega), zkI_s]
  simp only [zrI_zrI, zrI_row]
  rw [pc95 w2 (by omega), zkI_s]
  simp only [zrI_zrI, zrI_row, i3]
  rw [z_loads G.1 hb, z_tilts G.1 G.wb hb, b2, b3]
  generalize hrow : upd (upd (upd (upd (upd (upd (I 23) 11 (nI a)) 12 (nI sp)) 13 (zload S nk b (zset (zab S b) nk))) 14 (ztilt S nk b (zset (zab S b) nk))) 15 (S (6 + 7 * b + 2))) 16 (S (6 + 7 * b + 3)) = row
  obtain ⟨I2, f1, f2, f3⟩ := p_most58 (σ := σ) (J := J) (x2 := nI b) (e := e) (x5 := x) G hdy edy 8 0 (zrI I 23 row) (by omega) (i3 _) (fun i hi => absurd hi (by omega))
  rw [show qd_mostCoins_58 (nI b) e x 0 σ (zrI I 23 row) J = _ from f1]
  obtain ⟨I3, g1, g2, g3⟩ := p_most106 (σ := σ) (J := J) (x5 := x) G hb 12 0 I2 (by omega) (by rw [f2 3 (by decide) (by decide) (by decide), i3]) (fun i hi => absurd hi (by omega))
  rw [show qd_mostCoins_106 (nI b) x 0 σ I2 J = _ from g1]
  have r23 : I3 23 = row := by rw [g2 23 (by decide) (by decide), f2 23 (by decide) (by decide) (by decide), zrI_row]
  have v11 : row 11 = nI a := by rw [← hrow, u_no (by decide), u_no (by decide), u_no (by decide), u_no (by decide), u_no (by decide), u_at]
  have v12 : row 12 = nI sp := by rw [← hrow, u_no (by decide), u_no (by decide), u_no (by decide), u_no (by decide), u_at]
  have v13 : row 13 = zload S nk b (zset (zab S b) nk) := by rw [← hrow, u_no (by decide), u_no (by decide), u_no (by decide), u_at]
  have v14 : row 14 = ztilt S nk b (zset (zab S b) nk) := by rw [← hrow, u_no (by decide), u_no (by decide), u_at]
  have v15 : row 15 = S (6 + 7 * b + 2) := by rw [← hrow, u_no (by decide), u_at]
  have v16 : row 16 = S (6 + 7 * b + 3) := by rw [← hrow, u_at]
  have i25 : I3 25 6 = 0 := by rw [g2 25 (by decide) (by decide), f2 25 (by decide) (by decide) (by decide), zrI_ne _ _ (by decide), h25]
  obtain ⟨I4, am, k1, k2, k3⟩ := p_most177 (σ := σ) (J := J) (b := b) (a := a) (sp := sp) (x := x) G (by omega) hsp 6 I3 (fun _ => 0) (Nat.le_refl 6) (by rw [g2 3 (by decide) (by decide), f2 3 (by decide) (by decide) (by decide), i3]) (by rw [r23, v11]) (by rw [r23, v12]) (fun i hi => (g3 i hi).1) ⟨rfl, fun r' h1 h2 => by rw [show r' = 6 by omega, i25]; rfl, fun r' h1 h2 => absurd h1 (by omega)⟩
  rw [show qd_mostCoins_177 x 5 σ I3 J = _ from k1, t_qd_mostCoins_177, if_pos (show (-1 : Int32) < 0 by decide)]
  obtain ⟨q0, q1, q2⟩ := k3
  have j23 : I4 23 = row := by rw [k2 23 (by decide) (by decide) (by decide) (by decide) (by decide), r23]
  have M : zAM S nk nr b a sp x am := ⟨q0, fun r hr => (q2 r (by omega) hr).1, fun r k hr hk hc => by
    have := (q2 r (by omega) (by omega)).2.1 k (by omega)
    unfold zgn at this
    unfold zcl at hc
    rw [if_pos ⟨hr, hk, (Bool.and_eq_true_iff.mp hc).1⟩] at this
    exact this, fun r hr h => (q2 r (by omega) hr).2.2.1 h⟩
  have F : zDF (I 3) S dy e nk ns nr b a sp x am (zsI I4 23 10 (-1)) := by
    refine ⟨⟨?_, ?_, ?_, ?_, ?_, ?_⟩, fun s hs => ?_, fun k hk hz => ?_, fun r k hr hk => ?_, fun r hr => ?_, fun r hr => ?_⟩
    · rw [zsI_no _ _ _ (by decide), j23, v11]
    · rw [zsI_no _ _ _ (by decide), j23, v12]
    · rw [zsI_no _ _ _ (by decide), j23, v13]
    · rw [zsI_no _ _ _ (by decide), j23, v14]
    · rw [zsI_no _ _ _ (by decide), j23, v15]
    · rw [zsI_no _ _ _ (by decide), j23, v16]
    · rw [zsI_ne _ _ _ (by decide), k2 29 (by decide) (by decide) (by decide) (by decide) (by decide), g2 29 (by decide) (by decide)]
      exact (f3 s (by omega)).1 hs
    · rw [zsI_ne _ _ _ (by decide), zsI_ne _ _ _ (by decide), k2 27 (by decide) (by decide) (by decide) (by decide) (by decide), k2 28 (by decide) (by decide) (by decide) (by decide) (by decide)]
      obtain ⟨h1, h2⟩ := g3 k (by omega)
      rw [h1, if_pos ⟨hk, hz⟩]
      exact ⟨rfl, h2 hk hz⟩
    · rw [zsI_ne _ _ _ (by decide), (q2 r (by omega) hr).2.2.2.1 k hk]
      unfold zgn
      split <;> rfl
    · rw [zsI_ne _ _ _ (by decide)]
      exact q1 r (by omega) hr
    · rw [zsI_ne _ _ _ (by decide)]
      exact (q2 r (by omega) (by omega)).2.2.2.2.1 hr
  have hz0 : ∀ f s, zLs S nr f (fun _ => 0) s = 0 := fun f s => zsum_none nr (fun _ _ => rfl)
  have c00 : zcoi S nr (fun _ => 0) = 0 := by
    unfold zcoi
    exact zsN_zero nr
  obtain ⟨I5, l1, l2, l3, l4, l5, l6⟩ := p_dsearch (σ := σ) (J := J) G hb has hsp M 6 0 (fun _ => 0) none (zsI I4 23 10 (-1)) (by omega) F (fun r _ => Or.inl rfl) (fun i _ j _ h => absurd rfl h) (fun _ _ => rfl) (fun _ _ => rfl) (fun s hs => by
    rw [hz0, hz0, zsI_ne _ _ _ (by decide), zsI_ne _ _ _ (by decide), k2 30 (by decide) (by decide) (by decide) (by decide) (by decide), k2 31 (by decide) (by decide) (by decide) (by decide) (by decide), g2 30 (by decide) (by decide), g2 31 (by decide) (by decide)]
    exact (f3 s hs).2) (fun j hj => by
    rw [zsI_ne _ _ _ (by decide), (q2 j (by omega) hj).2.2.2.2.2]
    decide) (by
    show zsI I4 23 10 (-1) 23 10 = -1
    rw [zsI_at])
  rw [c00] at l1
  rw [show zask zG (zS zG) 20 23 [.ref 23, .int 0, .int 0, .int 0] (zSC σ, zsI I4 23 10 (-1), J) = _ from (a_ds (d := 20) (r := 0) (by omega) (by omega)).trans l1, zkV_s]
  refine ⟨I5, rfl, fun i hi => ?_, ?_, l6⟩
  · rw [l2 i (by omega) (by omega) (by omega) (by omega) (by omega), zsI_ne _ _ _ (by omega), k2 i (by omega) (by omega) (by omega) (by omega) (by omega), g2 i (by omega) (by omega), f2 i (by omega) (by omega) (by omega), zrI_ne _ _ (by omega)]
  · rw [l2 25 (by decide) (by decide) (by decide) (by decide) (by decide), zsI_ne _ _ _ (by decide), q1 6 (by omega) (by omega), q0]
    rfl
