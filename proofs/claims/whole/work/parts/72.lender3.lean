/-! ===== lending: what the class notes first ===== -/
theorem p_dep0 {nb nk ns nr nh s : Nat} {σ : zSg} {I : zTI} {J : zTJ} {S : Nat → Int32} (G : zGood nb nk ns nr nh (I 3) S) (hs : ns ≤ s) (h8 : s < 8) : qw_depthOf 2 (nI s) σ I J = some (some (.int 0), (zSC σ, I, J)) := by
  have n2 := G.1.ns.2.2.1
  obtain ⟨-, -, ⟨c0, c1, c2, c3, c4⟩, -⟩ := id G.1
  rw [t_qw_depthOf 2 _ 3 w2, r0Stop w2 c2 (Or.inr ⟨znn (by omega), fun h => by have := (nI_ltI (by omega) (by omega)).mp h; omega⟩), zkI_s, if_pos rfl]
theorem p_most58 {nb nk ns nr nh dy : Nat} {σ : zSg} {J : zTJ} {C S : Nat → Int32} {x2 e x5 : Int32} (G : zGood nb nk ns nr nh C S) (hdy : dy ≤ 9999) (edy : S 5 = nI dy) : ∀ (m s : Nat) (I : zTI), s + m = 8 → I 3 = C → (∀ i, i < s → (i < ns → I 29 i = zde C dy i + e) ∧ I 30 i = 0 ∧ I 31 i = 0) → ∃ I1, qd_mostCoins_58 x2 e x5 (nI s) σ I J = qd_mostCoins_106 x2 x5 0 σ I1 J ∧ (∀ i, i ≠ 29 → i ≠ 30 → i ≠ 31 → I1 i = I i) ∧ (∀ i, i < 8 → (i < ns → I1 29 i = zde C dy i + e) ∧ I1 30 i = 0 ∧ I1 31 i = 0) := by
  intro m
  induction m with
  | zero =>
    intro s I es eC h
    have : s = 8 := by omega
    subst this
    rw [t_qd_mostCoins_58, if_neg (show ¬ nI 8 < (8 : Int32) by decide)]
    exact ⟨I, rfl, fun _ _ _ _ => rfl, h⟩
  | succ m ih =>
    intro s I es eC h
    subst eC
    have go : ∀ v, (s < ns → v = zde (I 3) dy s) → ∃ I1, qd_mostCoins_58 x2 e x5 (nI (s + 1)) σ (zsI (zsI (zsI I 29 s (v + e)) 30 s 0) 31 s 0) J = qd_mostCoins_106 x2 x5 0 σ I1 J ∧ (∀ i, i ≠ 29 → i ≠ 30 → i ≠ 31 → I1 i = I i) ∧ (∀ i, i < 8 → (i < ns → I1 29 i = zde (I 3) dy i + e) ∧ I1 30 i = 0 ∧ I1 31 i = 0) := fun v hv => by
      obtain ⟨I1, f1, f2, f3⟩ := ih (s + 1) (zsI (zsI (zsI I 29 s (v + e)) 30 s 0) 31 s 0) (by omega) (by rw [zsI_ne _ _ _ (by decide), zsI_ne _ _ _ (by decide), zsI_ne _ _ _ (by decide)]) (fun i hi => by
        rw [zsI_ne (b := 29) _ _ _ (by decide), zsI_ne (b := 29) _ _ _ (by decide), zsI_ne (b := 30) _ _ _ (by decide)]
        by_cases q : i = s
        · subst q
          rw [zsI_at, zsI_at, zsI_at]
          exact ⟨fun hn => by rw [hv hn], rfl, rfl⟩
        · rw [zsI_no _ _ _ q, zsI_no _ _ _ q, zsI_no _ _ _ q, zsI_ne (b := 30) _ _ _ (by decide), zsI_ne (b := 31) _ _ _ (by decide), zsI_ne (b := 31) _ _ _ (by decide)]
          exact h i (by omega))
      exact ⟨I1, f1, fun i a b c => by rw [f2 i a b c, zsI_ne _ _ _ c, zsI_ne _ _ _ b, zsI_ne _ _ _ a], f3⟩
    rw [t_qd_mostCoins_58, if_pos (show nI s < (8 : Int32) from nI_lt (b := 8) (by omega) (by decide))]
    by_cases hs : s < ns
    · rw [p_depW w2 G hdy edy hs, zkI_s, zif_n (by omega) (by omega), zif_n (by omega) (by omega), zif_n (by omega) (by omega), ztnn (by omega), nI_1]
      exact go _ (fun _ => rfl)
    · rw [p_dep0 G (by omega) (by omega), zkI_s, zif_n (by omega) (by omega), zif_n (by omega) (by omega), zif_n (by omega) (by omega), ztnn (by omega), nI_1]
      exact go 0 (fun h => absurd h hs)
set_option maxHeartbeats 2000000 in
theorem p_most106 {nb nk ns nr nh b : Nat} {σ : zSg} {J : zTJ} {C S : Nat → Int32} {x5 : Int32} (G : zGood nb nk ns nr nh C S) (hb : b < nb) : ∀ (m k : Nat) (I : zTI), k + m = 12 → I 3 = C → (∀ i, i < k → I 27 i = (if i < nk ∧ zab S b i = true then zhv S i else 0) ∧ (i < nk → zab S b i = true → I 28 i = ztl S b i)) → ∃ I1, qd_mostCoins_106 (nI b) x5 (nI k) σ I J = qd_mostCoins_177 x5 5 σ I1 J ∧ (∀ i, i ≠ 27 → i ≠ 28 → I1 i = I i) ∧ (∀ i, i < 12 → I1 27 i = (if i < nk ∧ zab S b i = true then zhv S i else 0) ∧ (i < nk → zab S b i = true → I1 28 i = ztl S b i)) := by
  have n0 := G.1.ns.1
  intro m
  induction m with
  | zero =>
    intro k I e eC F
    have ek : k = 12 := by omega
    subst ek
    rw [t_qd_mostCoins_106, if_neg (show ¬ nI 12 < (12 : Int32) by decide)]
    exact ⟨I, rfl, fun _ _ _ => rfl, F⟩
  | succ m ih =>
    intro k I e eC F
    subst eC
    obtain ⟨r, e1, er⟩ := p_bargeAny w2 (σ := σ) (J := J) (k := k) (b := b) G.1 (by omega) (by omega)
    rw [t_qd_mostCoins_106, if_pos (show nI k < (12 : Int32) from nI_lt (b := 12) (by omega) (by decide)), e1, zkI_s]
    have nx : ∀ (v1 v2 : Int32), v1 = (if k < nk ∧ zab S b k = true then zhv S k else 0) → (k < nk → zab S b k = true → v2 = ztl S b k) → ∃ I1, qd_mostCoins_106 (nI b) x5 (nI (k + 1)) σ (zrI (zrI I 27 (upd (I 27) k v1)) 28 (upd (I 28) k v2)) J = qd_mostCoins_177 x5 5 σ I1 J ∧ (∀ i, i ≠ 27 → i ≠ 28 → I1 i = I i) ∧ (∀ i, i < 12 → I1 27 i = (if i < nk ∧ zab S b i = true then zhv S i else 0) ∧ (i < nk → zab S b i = true → I1 28 i = ztl S b i)) := by
      intro v1 v2 h1 h2
      obtain ⟨I1, f1, f2, f3⟩ := ih (k + 1) (zrI (zrI I 27 (upd (I 27) k v1)) 28 (upd (I 28) k v2)) (by omega) (by rw [zrI_ne _ _ (by decide), zrI_ne _ _ (by decide)]) (fun i hi => by
        rw [zrI_row, zrI_ne (b := 27) _ _ (by decide), zrI_row]
        by_cases q : i = k
        · subst q
          rw [u_at, u_at]
          exact ⟨h1, h2⟩
        · rw [u_no q, u_no q]
          exact F i (by omega))
      exact ⟨I1, f1, fun i a c => by rw [f2 i a c, zrI_ne _ _ c, zrI_ne _ _ a], f3⟩
    by_cases q : r = nI b
    · obtain ⟨hk, ha⟩ := er.mp q
      obtain ⟨t1, t2⟩ := z_turn G hb hk ha
      rw [if_pos q, p_heavyW w2 (by omega), zkI_s, zif_n (by omega) (by omega), zif_n (by omega) (by omega), pc23 w2 (by omega), zkI_s, p_armW w2 (by omega), zkI_s, zif_n (by omega) (by omega), ztnn (by omega), nI_1]
      simp only [zsI_zrI]
      rw [zrI_row, u_at, zrI_ne (b := 3) _ _ (by decide), t1, t2, zrI_ne (b := 28) _ _ (by decide)]
      exact nx _ _ (by rw [if_pos ⟨hk, ha⟩]) (fun _ _ => rfl)
    · rw [if_neg q, zif_n (by omega) (by omega), zif_n (by omega) (by omega), pc23 w2 (by omega), zkI_s, p_armW w2 (by omega), zkI_s, zif_n (by omega) (by omega), ztnn (by omega), nI_1]
      simp only [zsI_zrI]
      rw [zrI_row, u_at, Int32.zero_mul, zrI_ne (b := 28) _ _ (by decide)]
      exact nx _ _ (by rw [if_neg (fun h => q (er.mpr h))]) (fun h1 h2 => absurd (er.mpr ⟨h1, h2⟩) q)
/-- what a book brings -/
def zgn (S : Nat → Int32) (nk nr b a sp : Nat) (x : Int32) (r k : Nat) : Nat := if r < nr ∧ k < nk ∧ (zas S a sp x r && zab S b k) = true then zwi S r k else 0
theorem p_note72 {nb nk ns nr nh b a sp r : Nat} {σ : zSg} {J : zTJ} {C S : Nat → Int32} {x fl : Int32} (G : zGood nb nk ns nr nh C S) (hr : r < 6) (hfl : fl = if r < nr ∧ zas S a sp x r = true then 1 else 0) : ∀ (m k mo : Nat) (I : zTI), k + m = 12 → mo ≤ 99 → I 3 = C → (∀ i, i < 12 → I 27 i = (if i < nk ∧ zab S b i = true then zhv S i else 0)) → ∃ I1 mo1, qd_noteGains_72 (nI r) fl (nI mo) (nI k) σ I J = some (some (.int (nI mo1)), (zSC σ, I1, J)) ∧ (∀ i, i ≠ 24 → I1 i = I i) ∧ (∀ j, j < 12 * r + k ∨ 12 * r + 12 ≤ j → I1 24 j = I 24 j) ∧ (∀ k', k ≤ k' → k' < 12 → I1 24 (12 * r + k') = nI (zgn S nk nr b a sp x r k') ∧ zgn S nk nr b a sp x r k' ≤ mo1) ∧ mo ≤ mo1 ∧ mo1 ≤ 99 ∧ (¬ r < nr → mo1 = mo) := by
  have n3 := G.1.ns.2.2.2.1
  intro m
  induction m with
  | zero =>
    intro k mo I e hm eC h27
    have ek : k = 12 := by omega
    subst ek
    rw [t_qd_noteGains_72, if_neg (show ¬ nI 12 < (12 : Int32) by decide)]
    exact ⟨I, mo, rfl, fun _ _ => rfl, fun _ _ => rfl, fun k' h1 h2 => absurd h1 (by omega), Nat.le_refl _, hm, fun _ => rfl⟩
  | succ m ih =>
    intro k mo I e hm eC h27
    subst eC
    have e24 : nI r * 12 + nI k = nI (12 * r + k) := by rw [show nI r * 12 = nI (12 * r) from by rw [Nat.mul_comm]; exact (Int32.ofNat_mul r 12).symm, nI_add]
    have go : ∀ (v : Nat), v = zgn S nk nr b a sp x r k → v ≤ 99 → ∃ I1 mo1, qd_noteGains_72 (nI r) fl (if nI mo < nI v then nI v else nI mo) (nI (k + 1)) σ (zsI I 24 (12 * r + k) (nI v)) J = some (some (.int (nI mo1)), (zSC σ, I1, J)) ∧ (∀ i, i ≠ 24 → I1 i = I i) ∧ (∀ j, j < 12 * r + k ∨ 12 * r + 12 ≤ j → I1 24 j = I 24 j) ∧ (∀ k', k ≤ k' → k' < 12 → I1 24 (12 * r + k') = nI (zgn S nk nr b a sp x r k') ∧ zgn S nk nr b a sp x r k' ≤ mo1) ∧ mo ≤ mo1 ∧ mo1 ≤ 99 ∧ (¬ r < nr → mo1 = mo) := by
      intro v hv hv9
      have em : (if nI mo < nI v then nI v else nI mo) = nI (max mo v) := by
        by_cases q : mo < v
        · rw [if_pos (nI_lt q (by omega)), show max mo v = v by omega]
        · rw [if_neg (fun h => q ((nI_ltI (by omega) (by omega)).mp h)), show max mo v = mo by omega]
      obtain ⟨I1, mo1, f1, f2, f3, f4, f5, f6, f7⟩ := ih (k + 1) (max mo v) (zsI I 24 (12 * r + k) (nI v)) (by omega) (by omega) (by rw [zsI_ne _ _ _ (by decide)]) (fun i hi => by rw [zsI_ne _ _ _ (by decide)]; exact h27 i hi)
      rw [em]
      refine ⟨I1, mo1, f1, fun i hi => by rw [f2 i hi, zsI_ne _ _ _ hi], fun j hj => by rw [f3 j (by omega), zsI_no _ _ _ (by omega)], fun k' h1 h2 => ?_, by omega, f6, fun hn => ?_⟩
      · by_cases q : k' = k
        · subst q
          rw [f3 _ (by omega), zsI_at, ← hv]
          exact ⟨rfl, by omega⟩
        · exact f4 k' (by omega) h2
      · have hv0 : v = 0 := by
          rw [hv]
          unfold zgn
          rw [if_neg (fun h => hn h.1)]
        rw [f7 hn]
        omega
    have go0 : zgn S nk nr b a sp x r k = 0 → ∃ I1 mo1, qd_noteGains_72 (nI r) fl (if nI mo < 0 then 0 else nI mo) (nI (k + 1)) σ (zsI I 24 (12 * r + k) 0) J = some (some (.int (nI mo1)), (zSC σ, I1, J)) ∧ (∀ i, i ≠ 24 → I1 i = I i) ∧ (∀ j, j < 12 * r + k ∨ 12 * r + 12 ≤ j → I1 24 j = I 24 j) ∧ (∀ k', k ≤ k' → k' < 12 → I1 24 (12 * r + k') = nI (zgn S nk nr b a sp x r k') ∧ zgn S nk nr b a sp x r k' ≤ mo1) ∧ mo ≤ mo1 ∧ mo1 ≤ 99 ∧ (¬ r < nr → mo1 = mo) := fun h => go 0 h.symm (by omega)
    rw [t_qd_noteGains_72, if_pos (show nI k < (12 : Int32) from nI_lt (b := 12) (by omega) (by decide)), e24, zif_n (by omega) (by omega), zif_n (by omega) (by omega), ztnn (by omega), ztnn (by omega), nI_1]
    by_cases q : r < nr ∧ zas S a sp x r = true
    · rw [if_pos q] at hfl
      subst hfl
      rw [if_neg z10, h27 k (by omega)]
      by_cases q2 : k < nk ∧ zab S b k = true
      · obtain ⟨d, d1, d2, ed⟩ := z_hv0 G.1.ns G.2.1 q2.1
        obtain ⟨ew, hw⟩ := zwi_e G.1.ns G.2.1 q.1 (show k < 12 by omega)
        have hR := (G.1.2.2.2.2.2.2.2.1 r q.1).2.2.2.2.2 k (by omega)
        rw [if_pos q2, ed, if_pos (show (0 : Int32) < nI d from nI_lt (a := 0) (by omega) (by omega)), p_coins w2 (by omega) (by omega), zkI_s, zif_n (by omega) (by omega), hR, ew]
        refine go _ ?_ hw
        unfold zgn
        rw [if_pos ⟨q.1, q2.1, by rw [q.2, q2.2]; rfl⟩]
      · rw [if_neg q2, if_neg (show ¬ (0 : Int32) < 0 by decide)]
        refine go0 ?_
        unfold zgn
        rw [if_neg (fun h => q2 ⟨h.2.1, (Bool.and_eq_true_iff.mp h.2.2).2⟩)]
    · rw [if_neg q] at hfl
      subst hfl
      rw [if_pos rfl]
      refine go0 ?_
      unfold zgn
      rw [if_neg (fun h => q ⟨h.1, (Bool.and_eq_true_iff.mp h.2.2).1⟩)]
theorem p_noteG {nb nk ns nr nh b a sp r : Nat} {σ : zSg} {I : zTI} {J : zTJ} {S : Nat → Int32} {x out : Int32} (G : zGood nb nk ns nr nh (I 3) S) (hr : r < 6) (ha : a < ns) (hsp : sp < ns) (hout : out = if nI r = x then 1 else 0) (f11 : I 23 11 = nI a) (f12 : I 23 12 = nI sp) (h27 : ∀ i, i < 12 → I 27 i = (if i < nk ∧ zab S b i = true then zhv S i else 0)) : ∃ I1 mo1, qd_noteGains (nI r) out σ I J = some (some (.int (nI mo1)), (zSC σ, I1, J)) ∧ (∀ i, i ≠ 24 → i ≠ 26 → I1 i = I i) ∧ (∀ j, j < 12 * r ∨ 12 * r + 12 ≤ j → I1 24 j = I 24 j) ∧ (∀ k', k' < 12 → I1 24 (12 * r + k') = nI (zgn S nk nr b a sp x r k') ∧ zgn S nk nr b a sp x r k' ≤ mo1) ∧ mo1 ≤ 99 ∧ (¬ r < nr → mo1 = 0) ∧ (∀ j, j ≠ r → I1 26 j = I 26 j) ∧ I1 26 r = I 3 (153 + r) := by
  obtain ⟨⟨n0, n1, n2, n3, n4⟩, -, ⟨c0, c1, c2, c3, c4⟩, -, -, -, -, hR, -⟩ := id G.1
  rw [t_qd_noteGains, pc153 w2 hr, zkI_s, zif_n (by omega) (by omega), ztnn (by omega)]
  have i3 : zsI I 26 r (I 3 (153 + r)) 3 = I 3 := zsI_ne _ _ _ (by decide)
  have go : ∀ fl : Int32, fl = (if r < nr ∧ zas S a sp x r = true then 1 else 0) → ∃ I1 mo1, qd_noteGains_72 (nI r) fl 0 0 σ (zsI I 26 r (I 3 (153 + r))) J = some (some (.int (nI mo1)), (zSC σ, I1, J)) ∧ (∀ i, i ≠ 24 → i ≠ 26 → I1 i = I i) ∧ (∀ j, j < 12 * r ∨ 12 * r + 12 ≤ j → I1 24 j = I 24 j) ∧ (∀ k', k' < 12 → I1 24 (12 * r + k') = nI (zgn S nk nr b a sp x r k') ∧ zgn S nk nr b a sp x r k' ≤ mo1) ∧ mo1 ≤ 99 ∧ (¬ r < nr → mo1 = 0) ∧ (∀ j, j ≠ r → I1 26 j = I 26 j) ∧ I1 26 r = I 3 (153 + r) := by
    intro fl hfl
    obtain ⟨I1, mo1, f1, f2, f3, f4, f5, f6, f7⟩ := p_note72 (σ := σ) (J := J) (b := b) (a := a) (sp := sp) (x := x) (fl := fl) G hr hfl 12 0 0 (zsI I 26 r (I 3 (153 + r))) (by omega) (by omega) i3 (fun i hi => by rw [zsI_ne _ _ _ (by decide)]; exact h27 i hi)
    refine ⟨I1, mo1, f1, fun i h1 h2 => by rw [f2 i h1, zsI_ne _ _ _ h2], fun j hj => by rw [f3 j (by omega), zsI_ne _ _ _ (by decide)], fun k' hk => f4 k' (by omega) hk, f6, f7, fun j hj => by rw [f2 26 (by decide), zsI_no _ _ _ hj], by rw [f2 26 (by decide), zsI_at]⟩
  by_cases hn : r < nr
  · obtain ⟨r0, -, -, r3, -⟩ := hR r hn
    obtain ⟨eh, hh⟩ := zhm_e G.1.ns G.2.1 hn
    rw [r1Reader w2 (nr := nr) (by rw [i3]; exact c3) n3 hn, zkI_s, if_neg z10]
    by_cases qx : nI r = x
    · rw [if_pos qx] at hout
      subst hout
      rw [if_neg z10]
      refine go 0 ?_
      rw [if_neg]
      rintro ⟨-, h⟩
      unfold zas at h
      rw [decide_eq_true qx] at h
      simp at h
    · rw [if_neg qx] at hout
      subst hout
      rw [if_pos rfl, pc11 w2 hr, zkI_s, i3, r3, zsI_ne (b := 23) _ _ _ (by decide), f11, f12, r0, eh]
      rw [r0, eh] at go
      have has : S (144 + 5 * r + 3) = -1 ↔ S (144 + 5 * r + 3) < 0 := by
        rcases zk_r3 G.1.ns G.2.1 hn with h | ⟨d, hd, h⟩
        · rw [h]
          decide
        · rw [h]
          exact ⟨fun e => absurd e (znm (by omega)), fun e => absurd e (znn (by omega))⟩
      by_cases q3 : S (144 + 5 * r + 3) = -1
      · rw [if_pos q3]
        by_cases q4 : zhm S r < a
        · rw [if_pos (nI_lt q4 (by omega))]
          refine go 0 ?_
          rw [if_neg]
          rintro ⟨-, h⟩
          unfold zas at h
          have := of_decide_eq_true (Bool.and_eq_true_iff.mp h).2
          omega
        · rw [if_neg (fun h => q4 ((nI_ltI (by omega) (by omega)).mp h))]
          by_cases q5 : sp < zhm S r
          · rw [if_pos (nI_lt q5 (by omega))]
            refine go 0 ?_
            rw [if_neg]
            rintro ⟨-, h⟩
            unfold zas at h
            have := of_decide_eq_true (Bool.and_eq_true_iff.mp h).2
            omega
          · rw [if_neg (fun h => q5 ((nI_ltI (by omega) (by omega)).mp h))]
            refine go 1 ?_
            rw [if_pos]
            refine ⟨hn, ?_⟩
            unfold zas
            rw [decide_eq_false qx, decide_eq_true (has.mp q3), decide_eq_true (show a ≤ zhm S r ∧ zhm S r ≤ sp by omega)]
            rfl
      · rw [if_neg q3]
        refine go 0 ?_
        rw [if_neg]
        rintro ⟨-, h⟩
        unfold zas at h
        have h1 := (Bool.and_eq_true_iff.mp (Bool.and_eq_true_iff.mp h).1).2
        exact q3 (has.mpr (of_decide_eq_true h1))
  · rw [r0Reader w2 (nr := nr) (by rw [i3]; exact c3) (Or.inr ⟨znn (by omega), fun h => hn ((nI_ltI (by omega) (by omega)).mp h)⟩), zkI_s, if_pos rfl]
    refine go 0 ?_
    rw [if_neg (fun h => hn h.1)]
