/-! ===== both readers: a sign; a river: its clauses one after another ===== -/
theorem p_sign {w c : Nat} (hw : zsn w c) {σ : zSg} {I : zTI} {J : zTJ} {t q : Nat} {B : Nat → Nat} {M : Nat → Int32} (T : zTxt t B (I c) M) (e1 : I w 1 = nI t) (e2 : I w 2 = nI q) (hq : q ≤ t) : qn_sign w σ I J = some (some (.int (zby B t q)), (zSC σ, I, J)) := by
  have ht := T.1
  rw [t_qn_sign w c hw, e2, e1, if_neg (znn (by omega))]
  unfold zby
  by_cases h : q < t
  · rw [if_pos (nI_lt h (by omega)), zif_n (by omega) (by omega), ztnn (by omega), if_pos h, (T.2 q h).2.1]
  · rw [if_neg (fun h' => h ((nI_ltI (by omega) (by omega)).mp h')), if_neg h]
theorem zby_eq {B : Nat → Nat} {t q s : Nat} (hB : q < t → B q < 256) (hs : s < 256) : (zby B t q = nI s ↔ q < t ∧ B q = s) ∧ (zby B t q = -1 ↔ ¬ q < t) := by
  unfold zby
  by_cases h : q < t
  · have := hB h
    rw [if_pos h]
    exact ⟨⟨fun e => ⟨h, znI (by omega) (by omega) e⟩, fun e => by rw [e.2]⟩, ⟨fun e => absurd e (znm (by omega)), fun e => absurd h e⟩⟩
  · rw [if_neg h]
    exact ⟨⟨fun e => absurd e.symm (znm (by omega)), fun e => absurd e.1 h⟩, ⟨fun _ => h, fun _ => rfl⟩⟩
theorem p_takeS {w c : Nat} (hw : zsn w c) {σ : zSg} {I : zTI} {J : zTJ} {t q : Nat} {B : Nat → Nat} {M : Nat → Int32} (T : zTxt t B (I c) M) (e1 : I w 1 = nI t) (e2 : I w 2 = nI q) (hq : q < t) : qn_takeSign w σ I J = some (none, (zSC σ, zsI I w 2 (nI (zru (zbl B) t (q + 1))), J)) := by
  have hcw : c ≠ w := by rcases hw with ⟨rfl, rfl⟩ | ⟨rfl, rfl⟩ <;> decide
  have ht := T.1
  rw [t_qn_takeSign w c hw, t_qn_takeByte w c hw, e2, e1, if_pos (nI_lt hq (by omega)), zkV_s, nI_1, p_skip hw T (q + 1) (zsI I w 2 (nI (q + 1))) (zsI_at _ _ _ _) (by rw [zsI_no _ _ _ (by decide)]; exact e1) (zsI_ne _ _ _ hcw) (by omega), zkV_s, zsI_sI]
/-- a sign is taken, if it is this one -/
theorem p_took {w c : Nat} (hw : zsn w c) {σ : zSg} {I : zTI} {J : zTJ} {t q s : Nat} {x : Int32} {B : Nat → Nat} {M : Nat → Int32} (T : zTxt t B (I c) M) (e1 : I w 1 = nI t) (e2 : I w 2 = nI q) (hq : q ≤ t) (hx : x = nI s) (hs : s < 256) : qn_tookSign w x σ I J = if q < t ∧ B q = s then some (some (.int 1), (zSC σ, zsI I w 2 (nI (zru (zbl B) t (q + 1))), J)) else some (some (.int 0), (zSC σ, I, J)) := by
  subst hx
  have hB : q < t → B q < 256 := fun h => (T.2 q h).1
  rw [t_qn_tookSign w _ c hw, p_sign hw T e1 e2 hq, zkI_s]
  by_cases h : q < t ∧ B q = s
  · rw [if_pos ((zby_eq hB hs).1.mpr h), if_pos h, p_takeS hw T e1 e2 h.1, zkV_s]
  · rw [if_neg (fun e => h ((zby_eq hB hs).1.mp e)), if_neg h]
/-- settled -/
def zst (ns : Nat) (C : Nat → Int32) : Nat → Int32 := fun i => if 71 ≤ i ∧ i < 83 then -1 else if 11 ≤ i ∧ i < 17 then -1 else if i = 2 then nI ns - 1 else C i
theorem p_settle {σ : zSg} {I : zTI} {J : zTJ} {ns : Nat} (h : I 10 86 = nI ns) : qr_settle σ I J = some (none, (zSC σ, zrI I 10 (zst ns (I 10)), J)) := by
  rw [t_qr_settle, h, show qa_fill_fda19 10 11 17 (-1) (zSC σ) (zsI I 10 2 (nI ns - 1)) J = _ from p_fill (a := 11) (b := 17) (by omega) (by omega), zkV_s, show ∀ X, qa_fill_fda19 10 71 83 (-1) (zSC σ) X J = _ from fun X => p_fill (a := 71) (b := 83) (by omega) (by omega), zkV_s, zsI_zrI, zrI_zrI, zrI_zrI]
  congr 4
/-- what reading a river leaves as it is, in the reference -/
def zGo (I I1 : zTI) : Prop := (∀ i, i ≠ 0 → i ≠ 6 → I1 i = I i) ∧ (∀ k, k ≠ 1 → k ≠ 8 → k ≠ 9 → k ≠ 10 → k ≠ 11 → k ≠ 15 → I1 0 k = I 0 k) ∧ I1 0 1 = 0
theorem zGn.o {I I1 : zTI} (h : zGn I I1) : zGo I (zsI I1 0 1 0) := ⟨fun i a b => by rw [zsI_ne _ _ _ a]; exact h.1 i a b, fun k a b c d e f => by rw [zsI_no _ _ _ a]; exact h.2 k b c d e f, zsI_at _ _ _ _⟩
theorem zGn.tro {I I1 I2 : zTI} (h : zGn I I1) (g : zGo I1 I2) : zGo I I2 := ⟨fun i a b => (g.1 i a b).trans (h.1 i a b), fun k a b c d e f => (g.2.1 k a b c d e f).trans (h.2 k b c d e f), g.2.2⟩
/-- how the two readers end -/
def zFin (I I' : zTI) (r : Int32) (I1 I1' : zTI) : Prop := zGc I I1 ∧ zGo I' I1' ∧ ((r ≠ 0 ∧ I1' 0 10 = r) ∨ (r = 0 ∧ ∃ nb nk ns nr nh C, zRv nb nk ns nr nh C (I1' 6) ∧ ns ≠ 0 ∧ I1 10 = zst ns C))
set_option maxHeartbeats 8000000 in
theorem p_parseL {σ : zSg} {J J' : zTJ} {t : Nat} {B : Nat → Nat} : ∀ (d m nb nk ns nr nh p : Nat) (I I' : zTI), m + d = 40 → zCl m nb nk ns nr nh t B p I I' → ∃ r I1 I1', qr_parse_19 1 (nI m) σ I J = some (some (.int r), (zSC σ, I1, J)) ∧ (zkI (qm_clauseHere I' J') zSM (fun r3 I1 J2 => (qm_readsAll_35 r3 I1 J2))) = some (some (.int (if r = 0 then 1 else 0)), (zSM, I1', J')) ∧ zFin I I' r I1 I1' := by
  intro d
  induction d with
  | zero =>
    intro m nb nk ns nr nh p I I' hm H
    obtain ⟨r, I1, I1', h1, h2, h3, h4, h5⟩ := p_clR (σ := σ) (J := J) (J' := J') H (by omega)
    rcases h5 with ⟨rfl, hb, hb0⟩ | ⟨_, h, _⟩
    · rw [t_qr_parse_19, if_neg (show ¬ (40 : Int32) < nI m from fun h => by have := (nI_ltI (a := 40) (by omega) (by omega)).mp h; omega), if_neg z10, h1, zkI_s, if_pos rfl, h2, zkI_s, t_qm_readsAll_35, if_pos rfl, if_pos rfl, if_pos rfl, if_neg hb0]
      exact ⟨_, I1, _, rfl, by rw [hb, if_neg hb0], h3, h4.o, Or.inl ⟨by rw [hb]; exact hb0, by rw [zsI_no _ _ _ (by decide), hb]⟩⟩
    · omega
  | succ d ih =>
    intro m nb nk ns nr nh p I I' hm H
    obtain ⟨r, I1, I1', h1, h2, h3, h4, h5⟩ := p_clR (σ := σ) (J := J) (J' := J') H (by omega)
    rw [t_qr_parse_19, if_neg (show ¬ (40 : Int32) < nI m from fun h => by have := (nI_ltI (a := 40) (by omega) (by omega)).mp h; omega), if_neg z10, h1, zkI_s, h2, zkI_s, t_qm_readsAll_35]
    rcases h5 with ⟨rfl, hb, hb0⟩ | ⟨rfl, h40, p1, nb1, nk1, ns1, nr1, nh1, H1⟩
    · rw [if_pos rfl, if_pos rfl, if_pos rfl, if_pos rfl, if_neg hb0]
      exact ⟨_, I1, _, rfl, by rw [hb, if_neg hb0], h3, h4.o, Or.inl ⟨by rw [hb]; exact hb0, by rw [zsI_no _ _ _ (by decide), hb]⟩⟩
    · obtain ⟨⟨a1, a2, b1, b2, hp, T, b10⟩, V, e12, e15, e8, hbm⟩ := H1
      have hq := zru_le (P := zbl B) (t := t) p1 hp
      have hz := zru_id (P := zbl B) (t := t) (p := p1)
      have ht := T.1
      rw [if_neg z10, if_neg z10, p_took s7 (x := 59) (s := 59) T a1 a2 hq rfl (by omega), p_see T p1 I1' b2 b1 rfl hp, zkI_s, zsI_at]
      generalize zru (zbl B) t p1 = q at *
      have hB : q < t → B q < 256 := fun h => (T.2 q h).1
      have k1 : zsI I1' 0 9 (nI q) 0 1 = nI t := by rw [zsI_no _ _ _ (by decide)]; exact b1
      have k9 : zsI I1' 0 9 (nI q) 0 9 = nI q := zsI_at _ _ _ _
      have k10 : zsI I1' 0 9 (nI q) 0 10 = 0 := by rw [zsI_no _ _ _ (by decide)]; exact b10
      have k15 : zsI I1' 0 9 (nI q) 0 15 = nI (m + 1) := by rw [zsI_no _ _ _ (by decide)]; exact e15
      have k12 : zsI I1' 0 9 (nI q) 0 12 = 6 := by rw [zsI_no _ _ _ (by decide)]; exact e12
      have k8 : zsI I1' 0 9 (nI q) 0 8 = if nb1 = m + 1 then 1 else 0 := by rw [zsI_no _ _ _ (by decide)]; exact e8
      have kT : zTxt t B (I1 8) (zsI I1' 0 9 (nI q) 1) := by rw [zsI_ne _ _ _ (by decide)]; exact T
      have kV : zRv nb1 nk1 ns1 nr1 nh1 (I1 10) (zsI I1' 0 9 (nI q) 6) := by rw [zsI_ne _ _ _ (by decide)]; exact V
      have gK : zGn I' (zsI I1' 0 9 (nI q)) := h4.tr (zGn.s (by omega))
      generalize zsI I1' 0 9 (nI q) = K at *
      by_cases h59 : q < t ∧ B q = 59
      · rw [if_pos h59, zkI_s, if_pos (show zby B t q = (59 : Int32) from (zby_eq hB (s := 59) (by omega)).1.mpr h59), nI_1, nI_1]
        obtain ⟨r, I2, I2', m1, m2, m3, m4, m5⟩ := ih (m + 1) nb1 nk1 ns1 nr1 nh1 (q + 1) (zsI I1 7 2 (nI (zru (zbl B) t (q + 1)))) (zsI K 0 9 (nI (q + 1))) (by omega) ⟨⟨by rw [zsI_no _ _ _ (by decide)]; exact a1, zsI_at _ _ _ _, by rw [zsI_no _ _ _ (by decide)]; exact k1, zsI_at _ _ _ _, by omega, by rw [zsI_ne _ _ _ (by decide), zsI_ne _ _ _ (by decide)]; exact kT, by rw [zsI_no _ _ _ (by decide)]; exact k10⟩, by rw [zsI_ne _ _ _ (by decide), zsI_ne _ _ _ (by decide)]; exact kV, by rw [zsI_no _ _ _ (by decide)]; exact k12, by rw [zsI_no _ _ _ (by decide)]; exact k15, by rw [zsI_no _ _ _ (by decide)]; exact k8, hbm⟩
        rw [m1, m2]
        exact ⟨r, I2, I2', rfl, rfl, (h3.tr (zGc.s7 (by omega))).tr m3, (gK.tr (zGn.s (by omega))).tro m4, m5⟩
      · rw [if_neg h59, zkI_s, nI_1, if_neg (show ¬ zby B t q = (59 : Int32) from fun e => h59 ((zby_eq hB (s := 59) (by omega)).1.mp e)), if_neg z10, p_see kT q K k9 k1 rfl hq, zkI_s, hz, ← k9, zsI_id, k9]
        have eC : qr_parse_19 0 (nI (m + 1)) σ I1 J = (zkI (qn_isAtEnd 7 σ I1 J) (zSC σ) (fun r3 I1 J2 => (if r3 = 0 then (zkI (qn_wrong 7 (I1 7 2) 0 σ I1 J2) (zSC σ) (fun r6 I4 J5 => (some (some (.int (I4 7 4)), ((zSC σ), I4, J5))))) else (if (I1 10 86) = 0 then (zkI (qn_wrong 7 (I1 7 2) 0 σ I1 J2) (zSC σ) (fun r9 I7 J8 => (some (some (.int (I7 7 4)), ((zSC σ), I7, J8))))) else (zkV (qr_settle σ I1 J2) (zSC σ) (fun I10 J11 => (some (some (.int 0), ((zSC σ), I10, J11))))))))) := by
          rw [t_qr_parse_19, if_neg (show ¬ (40 : Int32) < nI (m + 1) from fun h => by have := (nI_ltI (a := 40) (by omega) (by omega)).mp h; omega), if_pos rfl]
        have cf : ∀ x : zTI, zkI (qn_wrong 7 (nI q) 0 σ I1 J) (zSC σ) (fun r6 I4 J5 => (some (some (.int (I4 7 4)), ((zSC σ), I4, J5)))) = some (some (.int (nI (1 + 8 * q + 0))), (zSC σ, zsI I1 7 4 (nI (1 + 8 * q + 0)), J)) := fun _ => by
          rw [t_qn_wrong 7 _ _ 8 s7, zkI_s, show (1 : Int32) + 8 * nI q + 0 = nI (1 + 8 * q + 0) from (zcode (k := 0) (by omega) (by omega)).1, zsI_at]
        have c0 := (zcode (p := q) (k := 0) (by omega) (by omega)).2
        have mf : qm_fails 0 (nI q) K J' = some (some (.int 0), (zSM, zsI K 0 10 (nI (1 + 8 * q + 0)), J')) := by
          rw [t_qm_fails, if_pos k10, show (1 : Int32) + 8 * nI q + 0 = nI (1 + 8 * q + 0) from (zcode (k := 0) (by omega) (by omega)).1]
        have fin : zFin I I' (nI (1 + 8 * q + 0)) (zsI I1 7 4 (nI (1 + 8 * q + 0))) (zsI (zsI K 0 10 (nI (1 + 8 * q + 0))) 0 1 0) := ⟨h3.tr (zGc.s7 (by omega)), (gK.tr (zGn.s (by omega))).o, Or.inl ⟨c0, by rw [zsI_no _ _ _ (by decide), zsI_at]⟩⟩
        rw [eC, t_qn_isAtEnd 7 8 s7, a2, a1]
        by_cases hqt : q < t
        · rw [if_pos (nI_lt hqt (by omega)), zkI_s, if_pos rfl, a2, cf I1, if_neg (fun e => (zby_eq hB (s := 0) (by omega)).2.mp e hqt), mf, zkI_s, if_pos rfl, zsI_at, if_neg c0]
          exact ⟨_, _, _, rfl, by rw [if_neg c0], fin⟩
        · rw [if_neg (fun h' => hqt ((nI_ltI (by omega) (by omega)).mp h')), zkI_s, if_neg z10, a2, cf I1, V.2.2.1.2.2.1, if_pos ((zby_eq hB (s := 0) (by omega)).2.mpr hqt), if_neg z10, k12, if_pos rfl, kV.2.1.2.2.1, mf, zkI_s, zsI_at, if_neg c0, k10, if_pos rfl]
          by_cases hn : ns1 = 0
          · rw [if_pos (by rw [hn]; rfl), if_pos (by rw [hn]; rfl)]
            exact ⟨_, _, _, rfl, by rw [if_neg c0], fin⟩
          · have hn' : ¬ nI ns1 = (0 : Int32) := fun h => hn (znI (b := 0) (by have := V.1.2.2.1; omega) (by omega) h)
            rw [if_neg hn', if_neg hn', p_settle V.2.2.1.2.2.1, zkV_s]
            exact ⟨0, _, _, rfl, by rw [if_pos rfl], h3.tr ⟨fun i _ b => zrI_ne _ _ b, fun _ _ _ _ => by rw [zrI_ne _ _ (by decide)]⟩, gK.o, Or.inr ⟨rfl, nb1, nk1, ns1, nr1, nh1, I1 10, by rw [zsI_ne _ _ _ (by decide)]; exact kV, hn, zrI_row _ _ _⟩⟩
