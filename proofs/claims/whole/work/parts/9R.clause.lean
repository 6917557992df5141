/-! ===== a river: a clause ===== -/
theorem p_failC {w c : Nat} (hw : zsn w c) {σ : zSg} {I : zTI} {J : zTJ} {x k : Int32} : (zkI (qn_wrong w x k σ I J) (zSC σ) (fun r I1 J1 => (zif (zbo r) (some (some (.int r), ((zSC σ), I1, J1)))))) = some (some (.int 0), (zSC σ, zsI I w 4 (1 + 8 * x + k), J)) := by
  rw [t_qn_wrong w _ _ c hw, zkI_s, zif_t (show zbo 0 = true by decide)]
theorem p_failM {I : zTI} {J : zTJ} {x k : Int32} (h : I 0 10 = 0) : (zkI (qm_fails k x I J) zSM (fun r I1 J1 => (zif (zbo r) (some (some (.int r), (zSM, I1, J1)))))) = some (some (.int 0), (zSM, zsI I 0 10 (1 + 8 * x + k), J)) := by
  rw [t_qm_fails, if_pos h, zkI_s, zif_t (show zbo 0 = true by decide)]
theorem zBad_of {w : Nat} {I I' : zTI} {q k : Nat} {x : Int32} (hx : x = nI k) (hq : q ≤ 400) (hk : k ≤ 4) : zBad w (zsI I w 4 (1 + 8 * nI q + x)) (zsI I' 0 10 (1 + 8 * nI q + x)) := by
  subst hx
  refine ⟨by rw [zsI_at, zsI_at], ?_⟩
  rw [zsI_at, (zcode hq hk).1]
  exact (zcode hq hk).2
/-- what reading a clause leaves as it is, in the reference -/
def zGn (I I1 : zTI) : Prop := (∀ i, i ≠ 0 → i ≠ 6 → I1 i = I i) ∧ ∀ k, k ≠ 8 → k ≠ 9 → k ≠ 10 → k ≠ 11 → k ≠ 15 → I1 0 k = I 0 k
theorem zGn.rf {I : zTI} : zGn I I := ⟨fun _ _ _ => rfl, fun _ _ _ _ _ _ => rfl⟩
theorem zGn.tr {I I1 I2 : zTI} (h : zGn I I1) (g : zGn I1 I2) : zGn I I2 := ⟨fun i a b => (g.1 i a b).trans (h.1 i a b), fun k a b c d e => (g.2 k a b c d e).trans (h.2 k a b c d e)⟩
theorem zGm.n {I I1 : zTI} (h : zGm I I1) : zGn I I1 := ⟨h.1, fun k _ b c d _ => h.2 k b c d⟩
theorem zGn.s {I : zTI} {k : Nat} {v : Int32} (hk : k = 8 ∨ k = 9 ∨ k = 10 ∨ k = 11 ∨ k = 15) : zGn I (zsI I 0 k v) := ⟨fun i a _ => zsI_ne _ _ _ a, fun j a b c d e => zsI_no _ _ _ (by omega)⟩
theorem zGc.s7 {I : zTI} {k : Nat} {v : Int32} (hk : k = 2 ∨ k = 3 ∨ k = 4) : zGc I (zsI I 7 k v) := ⟨fun i a _ => zsI_ne _ _ _ a, fun j a b c => zsI_no _ _ _ (by omega)⟩
/-- where both stand ahead of a clause -/
def zCl (m nb nk ns nr nh t : Nat) (B : Nat → Nat) (p : Nat) (I I' : zTI) : Prop := zLx t B 7 8 p I I' ∧ zRv nb nk ns nr nh (I 10) (I' 6) ∧ I' 0 12 = 6 ∧ I' 0 15 = nI m ∧ (I' 0 8 = if nb = m then 1 else 0) ∧ nb ≤ m
def zLn (m t : Nat) (B : Nat → Nat) (I I' : zTI) (r : Int32) (I1 I1' : zTI) : Prop := zGc I I1 ∧ zGn I' I1' ∧ ((r = 0 ∧ zBad 7 I1 I1') ∨ (r = 1 ∧ m < 40 ∧ ∃ p1 nb nk ns nr nh, zCl (m + 1) nb nk ns nr nh t B p1 I1 I1'))
theorem p_lnE {m t : Nat} {B : Nat → Nat} {I I' I2 K2 I1 I1' : zTI} {r : Int32} {Q : Prop} (h3 : zOut t B I2 K2 r I1 I1' Q) (hQ : Q → ∃ nb nk ns nr nh, zRv nb nk ns nr nh (I1 10) (I1' 6) ∧ nb ≤ m + 1 ∧ (K2 0 8 = if nb = m + 1 then 1 else 0)) (gI : zGc I I2) (gK : zGn I' K2) (e12 : K2 0 12 = 6) (e15 : K2 0 15 = nI (m + 1)) (hm : m < 40) : zLn m t B I I' r I1 I1' := by
  obtain ⟨gc, gm, h3⟩ := h3
  refine ⟨gI.tr gc, gK.tr gm.n, ?_⟩
  rcases h3 with ⟨h, hb⟩ | ⟨h, ⟨p1, L1⟩, q⟩
  · exact Or.inl ⟨h, hb⟩
  · obtain ⟨nb, nk, ns, nr, nh, V, h1, h2⟩ := hQ q
    exact Or.inr ⟨h, hm, p1, nb, nk, ns, nr, nh, L1, V, by rw [gm.2 12 (by decide) (by decide) (by decide)]; exact e12, by rw [gm.2 15 (by decide) (by decide) (by decide)]; exact e15, by rw [gm.2 8 (by decide) (by decide) (by decide)]; exact h2, h1⟩
theorem zOut_b {t : Nat} {B : Nat → Nat} {I I' I1 I1' : zTI} {r : Int32} {Q : Prop} (h : zOut t B I I' r I1 I1' Q) : zbo r = true := by
  rcases h.2.2 with ⟨rfl, _⟩ | ⟨rfl, _⟩ <;> decide
theorem zwR_c {v : List Nat} (h : zix v zwR 0 ≠ -1) : (v = [98, 97, 114, 103, 101] ∧ zix v zwR 0 = 0) ∨ (v = [98, 111, 111, 107] ∧ zix v zwR 0 = 1) ∨ (v = [115, 116, 111, 112] ∧ zix v zwR 0 = 2) ∨ (v = [114, 101, 97, 100, 101, 114] ∧ zix v zwR 0 = 3) ∨ (v = [119, 105, 115, 104] ∧ zix v zwR 0 = 4) ∨ (v = [104, 111, 108, 101] ∧ zix v zwR 0 = 5) := by
  by_cases h0 : v = [98, 97, 114, 103, 101]
  · subst h0; exact Or.inl ⟨rfl, by decide⟩
  by_cases h1 : v = [98, 111, 111, 107]
  · subst h1; exact Or.inr (Or.inl ⟨rfl, by decide⟩)
  by_cases h2 : v = [115, 116, 111, 112]
  · subst h2; exact Or.inr (Or.inr (Or.inl ⟨rfl, by decide⟩))
  by_cases h3 : v = [114, 101, 97, 100, 101, 114]
  · subst h3; exact Or.inr (Or.inr (Or.inr (Or.inl ⟨rfl, by decide⟩)))
  by_cases h4 : v = [119, 105, 115, 104]
  · subst h4; exact Or.inr (Or.inr (Or.inr (Or.inr (Or.inl ⟨rfl, by decide⟩))))
  by_cases h5 : v = [104, 111, 108, 101]
  · subst h5; exact Or.inr (Or.inr (Or.inr (Or.inr (Or.inr ⟨rfl, by decide⟩))))
  · exact absurd (by
      unfold zwR zix zix zix zix zix zix zix
      rw [if_neg h0, if_neg h1, if_neg h2, if_neg h3, if_neg h4, if_neg h5]) h
theorem p_wt {J : zTJ} {t q : Nat} {B : Nat → Nat} {C : Nat → Int32} {I : zTI} {X : Int64} {l : List Nat} (hv : zww B t q = l) (T : zTxt t B C (I 1)) (e1 : I 0 1 = nI t) (e9 : I 0 9 = nI q) (hq : q ≤ t) (hz : zru (zbl B) t q = q) (hX : X = zn6 (zpq l.reverse)) (hl : ∀ a, a ∈ l → 0 < a ∧ a < 256) (h0 : 0 < l.length) (h7 : l.length < 8) : qm_isWord X I J = some (some (.int 1), (zSM, I, J)) := by
  rw [p_isWq T e1 e9 hq hz hX hl h0 h7, if_pos hv]
theorem p_wf {J : zTJ} {t q : Nat} {B : Nat → Nat} {C : Nat → Int32} {I : zTI} {X : Int64} {l : List Nat} (hv : zww B t q ≠ l) (T : zTxt t B C (I 1)) (e1 : I 0 1 = nI t) (e9 : I 0 9 = nI q) (hq : q ≤ t) (hz : zru (zbl B) t q = q) (hX : X = zn6 (zpq l.reverse)) (hl : ∀ a, a ∈ l → 0 < a ∧ a < 256) (h0 : 0 < l.length) (h7 : l.length < 8) : qm_isWord X I J = some (some (.int 0), (zSM, I, J)) := by
  rw [p_isWq T e1 e9 hq hz hX hl h0 h7, if_neg hv]
/-- the class behind its word's place: what the class still does with a clause of this kind -/
noncomputable def zRc (σ : zSg) (x0 x r3 : Int32) (I : zTI) (J : zTJ) : Option zR := (zkI (qr_hasPlaceFor r3 x σ I J) (zSC σ) (fun r9 I7 J8 => (if r9 = 0 then (zkI (qn_wrong 7 x0 4 σ I7 J8) (zSC σ) (fun r12 I10 J11 => (zif (zbo r12) (some (some (.int r12), ((zSC σ), I10, J11)))))) else (zkV (qn_takeWord 7 σ I7 J8) (zSC σ) (fun I13 J14 => (if r3 = 0 then (zkI (qr_readBarge σ I13 J14) (zSC σ) (fun r17 I15 J16 => (zif (zbo r17) (some (some (.int r17), ((zSC σ), I15, J16)))))) else (if r3 = 1 then (zkI (qr_readBook σ I13 J14) (zSC σ) (fun r20 I18 J19 => (zif (zbo r20) (some (some (.int r20), ((zSC σ), I18, J19)))))) else (if r3 = 2 then (zkI (qr_readStop σ I13 J14) (zSC σ) (fun r23 I21 J22 => (zif (zbo r23) (some (some (.int r23), ((zSC σ), I21, J22)))))) else (if r3 = 3 then (zkI (qr_readReader σ I13 J14) (zSC σ) (fun r26 I24 J25 => (zif (zbo r26) (some (some (.int r26), ((zSC σ), I24, J25)))))) else (if r3 = 4 then (zkI (qr_readWish σ I13 J14) (zSC σ) (fun r29 I27 J28 => (zif (zbo r29) (some (some (.int r29), ((zSC σ), I27, J28)))))) else (zkI (qr_readHole σ I13 J14) (zSC σ) (fun r32 I30 J31 => (zif (zbo r32) (some (some (.int r32), ((zSC σ), I30, J31))))))))))))))))
/-- what holds when the kind is known -/
def zKd (f : Int32) (m nb nk ns nr nh t : Nat) (B : Nat → Nat) (q : Nat) (I K : zTI) : Prop := zLx t B 7 8 q I K ∧ zru (zbl B) t q = q ∧ zRv nb nk ns nr nh (I 10) (K 6) ∧ K 0 12 = 6 ∧ K 0 15 = nI (m + 1) ∧ K 0 8 = f ∧ nb ≤ m ∧ m < 40
/-- the word is passed -/
theorem zKd_p {f : Int32} {m nb nk ns nr nh t q : Nat} {B : Nat → Nat} {I K : zTI} {σ : zSg} {J J' : zTJ} (H : zKd f m nb nk ns nr nh t B q I K) : ∃ I2 K2 p2, qn_takeWord 7 σ I J = some (none, (zSC σ, I2, J)) ∧ qm_passWord K J' = some (none, (zSM, K2, J')) ∧ zLx t B 7 8 p2 I2 K2 ∧ zGc I I2 ∧ zGn K K2 ∧ I2 10 = I 10 ∧ K2 6 = K 6 ∧ (∀ k, k ≠ 9 → K2 0 k = K 0 k) := by
  obtain ⟨⟨a1, a2, b1, b2, hq, T, b10⟩, hz, -⟩ := H
  rw [hz] at a2
  refine ⟨_, _, zru (zlr B) t q, p_takeW s7 T a1 a2 hq, p_pass T q K b2 b1 rfl hq, ⟨?_, zsI_at _ _ _ _, ?_, zsI_at _ _ _ _, zru_le q hq, ?_, ?_⟩, zGc.s7 (by omega), zGn.s (by omega), zsI_ne _ _ _ (by decide), zsI_ne _ _ _ (by decide), fun k hk => zsI_no _ _ _ hk⟩
  · rw [zsI_no _ _ _ (by decide)]; exact a1
  · rw [zsI_no _ _ _ (by decide)]; exact b1
  · rw [zsI_ne _ _ _ (by decide), zsI_ne _ _ _ (by decide)]; exact T
  · rw [zsI_no _ _ _ (by decide)]; exact b10
/-- there is no place for it -/
theorem p_full {m t q : Nat} {B : Nat → Nat} {I K : zTI} {σ : zSg} {J J' : zTJ} (hm : m < 40) (hq : q ≤ 400) (k10 : K 0 10 = 0) : ∃ r I1 I1', (zkI (qn_wrong 7 (nI q) 4 σ I J) (zSC σ) (fun r I1 J1 => (zif (zbo r) (some (some (.int r), ((zSC σ), I1, J1)))))) = some (some (.int r), (zSC σ, I1, J)) ∧ (zkI (qm_fails 4 (nI q) K J') zSM (fun r I1 J1 => (zif (zbo r) (some (some (.int r), (zSM, I1, J1)))))) = some (some (.int r), (zSM, I1', J')) ∧ r = 0 ∧ zLn m t B I K r I1 I1' := by
  refine ⟨0, _, _, p_failC s7, p_failM k10, rfl, zGc.s7 (by omega), zGn.s (by omega), Or.inl ⟨rfl, zBad_of (k := 4) rfl hq (by omega)⟩⟩
