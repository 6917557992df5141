/-! ===== the acts that are kept: a ring of twenty, a row of twenty ===== -/
def zPw (C P : Nat → Int32) (r : Nat) : Nat → Int32 := fun k => if k < 83 then P (83 * r + k) else C k
def zRing (nb nk ns nr nh j u : Nat) (C P Q : Nat → Int32) : Prop := j < 20 ∧ u ≤ 20 ∧ ∀ i, i < u → zGood nb nk ns nr nh (zPw C P ((j + 20 - u + i) % 20)) (fun k => Q (258 * i + k))
theorem zRing_C {nb nk ns nr nh j u : Nat} {C C' P Q : Nat → Int32} (R : zRing nb nk ns nr nh j u C P Q) (h : ∀ k, 83 < k → k < 251 → C' k = C k) : zRing nb nk ns nr nh j u C' P Q := by
  refine ⟨R.1, R.2.1, fun i hi => zGood_cong (R.2.2 i hi) (fun k hk hk' => ?_) fun k _ => rfl⟩
  unfold zPw
  by_cases q : k < 83
  · rw [if_pos q, if_pos q]
  · rw [if_neg q, if_neg q, h k (by omega) hk]
/-- the reference keeps an act -/
theorem p_keeps {I : zTI} {J : zTJ} {u : Nat} (hu : u ≤ 20) (e : I 0 25 = nI u) : ∃ I1, qm_keepsAct I J = some (none, (zSM, I1, J)) ∧ I1 0 25 = nI (if u < 20 then u + 1 else u) ∧ (∀ k, k ≠ 25 → I1 0 k = I 0 k) ∧ (∀ i, i ≠ 0 → i ≠ 11 → I1 i = I i) ∧ (∀ i k, i < (if u < 20 then u else 19) → k < 258 → I1 11 (258 * i + k) = I 11 (258 * (if u < 20 then i else i + 1) + k)) ∧ (∀ k, k < 258 → I1 11 (258 * (if u < 20 then u else 19) + k) = I 10 k) := by
  rw [t_qm_keepsAct, e]
  by_cases q : u < 20
  · rw [if_neg (fun q' => by have := znI (b := 20) (by omega) (by decide) q'; omega), show (0 : Int32) = nI 0 from rfl, p_keep54 q 258 0 I (by omega) e]
    refine ⟨_, rfl, ?_, fun k hk => ?_, fun i h0 h1 => ?_, fun i k hi hk => ?_, fun k hk => ?_⟩
    · rw [zsI_at, if_pos q]
    · rw [zsI_no _ _ _ hk, zrI_ne _ _ (by decide)]
    · rw [zsI_ne _ _ _ h0, zrI_ne _ _ h1]
    · rw [if_pos q] at hi
      rw [zsI_ne _ _ _ (by decide), zrI_row, if_neg (by omega), if_pos q]
    · rw [if_pos q, zsI_ne _ _ _ (by decide), zrI_row, if_pos (by omega), show 258 * u + k - 258 * u = k by omega]
  · have q1 : u = 20 := by omega
    subst q1
    rw [if_pos (by decide), show (258 : Int32) = nI (0 + 258) from rfl, p_keep13 258 rfl 4902 0 I (by omega), show (0 : Int32) = nI 0 from rfl]
    have e19 : nI 20 - 1 = nI 19 := by decide
    rw [e, e19]
    rw [p_keep54 (u := 19) (by omega) 258 0 _ (by omega) (by rw [zsI_at])]
    refine ⟨_, rfl, ?_, fun k hk => ?_, fun i h0 h1 => ?_, fun i k hi hk => ?_, fun k hk => ?_⟩
    · rw [zsI_at, if_neg q]
    · rw [zsI_no _ _ _ hk, zrI_ne _ _ (by decide), zsI_no _ _ _ hk, zrI_ne _ _ (by decide)]
    · rw [zsI_ne _ _ _ h0, zrI_ne _ _ h1, zsI_ne _ _ _ h0, zrI_ne _ _ h1]
    · rw [if_neg q] at hi
      rw [zsI_ne _ _ _ (by decide), zrI_row, if_neg (by omega), zsI_ne _ _ _ (by decide), zrI_row, if_pos (by omega), if_neg q, show 258 * i + k + 258 = 258 * (i + 1) + k by omega]
    · rw [if_neg q, zsI_ne _ _ _ (by decide), zrI_row, if_pos (by omega), zsI_ne _ _ _ (by decide), zrI_ne _ _ (by decide), show 258 * 19 + k - 258 * 19 = k by omega]
theorem zva_in {f g : Nat → Int32} {sp dp n k : Nat} (h : dp ≤ k ∧ k < dp + n) : va_cpy f g sp dp n k = f (sp + (k - dp)) := by
  unfold va_cpy; rw [if_pos h]
theorem zva_out {f g : Nat → Int32} {sp dp n k : Nat} (h : ¬ (dp ≤ k ∧ k < dp + n)) : va_cpy f g sp dp n k = g k := by
  unfold va_cpy; rw [if_neg h]
/-- a new act -/
theorem zRing_push {nb nk ns nr nh j u : Nat} {C C' P P' Q Q' S : Nat → Int32} (R : zRing nb nk ns nr nh j u C P Q) (G : zGood nb nk ns nr nh C S) (hC : ∀ k, 83 ≤ k → C' k = C k) (hP : P' = va_cpy C P 0 (83 * j) 83) (hQ : ∀ i k, i < (if u < 20 then u else 19) → k < 258 → Q' (258 * i + k) = Q (258 * (if u < 20 then i else i + 1) + k)) (hS : ∀ k, k < 258 → Q' (258 * (if u < 20 then u else 19) + k) = S k) : zRing nb nk ns nr nh (if j = 19 then 0 else j + 1) (if u < 20 then u + 1 else u) C' P' Q' := by
  obtain ⟨h0, h1, h2⟩ := R
  have last : ∀ r, r = j → ∀ k, k < 251 → k ≠ 83 → zPw C' P' r k = C k := fun r hr k hk hk' => by
    subst hr
    unfold zPw
    by_cases q : k < 83
    · rw [if_pos q, hP, zva_in (by omega), show 0 + (83 * r + k - 83 * r) = k by omega]
    · rw [if_neg q, hC k (by omega)]
  have other : ∀ r, r ≠ j → ∀ k, k < 251 → k ≠ 83 → zPw C' P' r k = zPw C P r k := fun r hr k hk hk' => by
    unfold zPw
    by_cases q : k < 83
    · rw [if_pos q, if_pos q, hP, zva_out (by omega)]
    · rw [if_neg q, if_neg q, hC k (by omega)]
  refine ⟨by split <;> omega, by split <;> omega, fun i hi => ?_⟩
  by_cases q : u < 20
  · rw [if_pos q] at hi hS
    simp only [if_pos q] at hQ
    rw [if_pos q]
    by_cases qi : i < u
    · have er : ((if j = 19 then 0 else j + 1) + 20 - (u + 1) + i) % 20 = (j + 20 - u + i) % 20 := by split <;> omega
      rw [er]
      exact zGood_cong (h2 i qi) (other _ (by omega)) (fun k hk => hQ i k qi hk)
    · have ei : i = u := by omega
      subst ei
      have er : ((if j = 19 then 0 else j + 1) + 20 - (i + 1) + i) % 20 = j := by split <;> omega
      rw [er]
      exact zGood_cong G (last _ rfl) (fun k hk => hS k hk)
  · rw [if_neg q] at hi hS
    simp only [if_neg q] at hQ
    rw [if_neg q]
    by_cases qi : i < 19
    · have er : ((if j = 19 then 0 else j + 1) + 20 - u + i) % 20 = (j + 20 - u + (i + 1)) % 20 := by split <;> omega
      rw [er]
      exact zGood_cong (h2 (i + 1) (by omega)) (other _ (by omega)) (fun k hk => hQ i k qi hk)
    · have ei : i = 19 := by omega
      subst ei
      have er : ((if j = 19 then 0 else j + 1) + 20 - u + 19) % 20 = j := by split <;> omega
      rw [er]
      exact zGood_cong G (last _ rfl) (fun k hk => hS k hk)
/-- the two states: the river, the tape, what is kept -/
def zSta (nb nk ns nr nh t j u : Nat) (I I' : zTI) : Prop := zTp t I I' ∧ zGood nb nk ns nr nh (I 3) (I' 10) ∧ zRing nb nk ns nr nh j u (I 3) (I 6) (I' 11) ∧ I 3 83 = I' 0 22 ∧ ¬ I' 0 22 < 0 ∧ I' 0 23 = 0 ∧ I 0 7 = nI j ∧ I 0 8 = nI u ∧ I' 0 25 = nI u ∧ I 0 5 = I' 0 2 ∧ I 25 6 = 0
/-- what neither an act nor a question changes -/
def zKC (I I1 : zTI) : Prop := (∀ i, 47 ≤ i → I1 i = I i) ∧ I1 0 5 = I 0 5
def zKM (I I1 : zTI) : Prop := (∀ i, i = 2 ∨ i = 4 ∨ i = 5 ∨ i = 18 ∨ i = 19 ∨ i = 20 → I1 i = I i) ∧ I1 0 2 = I 0 2
theorem z_act {nb nk ns nr nh t j u : Nat} {σ : zSg} {I I' : zTI} {J J' : zTJ} (H : zSta nb nk ns nr nh t j u I I') : ∃ I1 I1', qb_remember σ I J = some (none, (zSC σ, I1, J)) ∧ qm_keepsAct I' J' = some (none, (zSM, I1', J')) ∧ I1 3 = I 3 ∧ I1' 10 = I' 10 ∧ I1' 0 23 = 0 ∧ (∀ C' S', (∀ k, 83 ≤ k → C' k = I 3 k) → zGood nb nk ns nr nh C' S' → (∃ j u, zSta nb nk ns nr nh t j u (zrI I1 3 C') (zrI I1' 10 S')) ∧ zKC I (zrI I1 3 C') ∧ zKM I' (zrI I1' 10 S')) := by
  obtain ⟨T, G, R, x, x0, n, e7, e8, e25, e5, e6⟩ := H
  obtain ⟨I1, a1, a2, a3, a4, a5, a6⟩ := p_remember (σ := σ) (J := J) R.1 R.2.1 e7 e8
  obtain ⟨I1', b1, b2, b3, b4, b5, b6⟩ := p_keeps (J := J') R.2.1 e25
  refine ⟨I1, I1', a1, b1, a5 3 (by decide) (by decide), b4 10 (by decide) (by decide), by rw [b3 _ (by decide)]; exact n, fun C' S' hC G' => ⟨⟨_, _, ?_, ?_, zRing_push R G ?_ ?_ ?_ ?_, ?_, ?_, ?_, ?_, ?_, ?_, ?_, ?_⟩, ⟨fun i hi => ?_, ?_⟩, ⟨fun i hi => ?_, ?_⟩⟩⟩
  · obtain ⟨t1, t2, t3, t4⟩ := T
    refine ⟨?_, ?_, t3, fun i hi => ?_⟩
    · rw [zrI_ne _ _ (by decide), a4 _ (by decide) (by decide)]
      exact t1
    · rw [zrI_ne _ _ (by decide), b3 _ (by decide)]
      exact t2
    · rw [zrI_ne _ _ (by decide), zrI_ne _ _ (by decide), a5 1 (by decide) (by decide), b4 1 (by decide) (by decide)]
      exact t4 i hi
  · rw [zrI_row, zrI_row]
    exact G'
  · rw [zrI_row]
    exact hC
  · rw [zrI_ne _ _ (by decide), a6]
  · rw [zrI_ne _ _ (by decide)]
    exact b5
  · rw [zrI_ne _ _ (by decide)]
    exact b6
  · rw [zrI_row, hC 83 (by omega), x, zrI_ne _ _ (by decide), b3 _ (by decide)]
  · rw [zrI_ne _ _ (by decide), b3 _ (by decide)]
    exact x0
  · rw [zrI_ne _ _ (by decide), b3 _ (by decide)]
    exact n
  · rw [zrI_ne _ _ (by decide), a2]
  · rw [zrI_ne _ _ (by decide), a3]
  · rw [zrI_ne _ _ (by decide), b2]
  · rw [zrI_ne _ _ (by decide), zrI_ne _ _ (by decide), a4 _ (by decide) (by decide), b3 _ (by decide)]
    exact e5
  · rw [zrI_ne _ _ (by decide), a5 25 (by decide) (by decide)]
    exact e6
  · rw [zrI_ne _ _ (by omega), a5 _ (by omega) (by omega)]
  · rw [zrI_ne _ _ (by decide), a4 _ (by decide) (by decide)]
  · rw [zrI_ne _ _ (by omega), b4 _ (by omega) (by omega)]
  · rw [zrI_ne _ _ (by decide), b3 _ (by decide)]
theorem zKC.rf {I : zTI} : zKC I I := ⟨fun _ _ => rfl, rfl⟩
theorem zKM.rf {I : zTI} : zKM I I := ⟨fun _ _ => rfl, rfl⟩
/-- what an operation must do with the two states: the same answer, the relation again -/
def zDo (nb nk ns nr nh t : Nat) (σ : zSg) (I I' : zTI) (x y : Option zR) : Prop := ∃ r I1 I1' J1 J1', x = some (some (.int r), (zSC σ, I1, J1)) ∧ y = some (some (.int r), (zSM, I1', J1')) ∧ (∃ j u, zSta nb nk ns nr nh t j u I1 I1') ∧ zKC I I1 ∧ zKM I' I1'
theorem zDo_same {nb nk ns nr nh t j u : Nat} {σ : zSg} {I I' : zTI} {J J' : zTJ} {x y : Option zR} (H : zSta nb nk ns nr nh t j u I I') (h : ∃ r, x = some (some (.int r), (zSC σ, I, J)) ∧ y = some (some (.int r), (zSM, I', J'))) : zDo nb nk ns nr nh t σ I I' x y := by
  obtain ⟨r, h1, h2⟩ := h
  exact ⟨r, I, I', J, J', h1, h2, ⟨j, u, H⟩, zKC.rf, zKM.rf⟩
theorem o_undo {nb nk ns nr nh t j u : Nat} {σ : zSg} {I I' : zTI} {J J' : zTJ} (H : zSta nb nk ns nr nh t j u I I') : zDo nb nk ns nr nh t σ I I' (qb_undo σ I J) (qm_undo I' J') := by
  obtain ⟨T, G, R, x, x0, n, e7, e8, e25, e5, e6⟩ := id H
  obtain ⟨hj, hu, hr⟩ := id R
  rw [t_qb_undo, t_qm_undo, e8, e25]
  by_cases q : u = 0
  · subst q
    have q0 : nI 0 = 0 := rfl
    rw [if_pos q0, if_pos q0]
    exact zDo_same H ⟨_, rfl, rfl⟩
  · have q1 : ¬ nI u = 0 := fun e => q (znI (b := 0) (by omega) (by decide) e)
    rw [if_neg q1, if_neg q1]
    obtain ⟨v, rfl⟩ : ∃ v, u = v + 1 := ⟨u - 1, by omega⟩
    have ev : nI (v + 1) - 1 = nI v := by rw [← nI_1]; exact Int32.add_sub_cancel _ _
    have t0 : (0 : Int32).toNatClampNeg = 0 := by decide
    have t83 : (83 : Int32).toNatClampNeg = 83 := by decide
    have tj : (19 * 83 : Int32).toNatClampNeg = 83 * 19 := by decide
    rw [ev, show qm_undo_21 0 (zsI I' 0 25 (nI v)) J' = _ from p_undoL (u := v) (by omega) 258 0 _ (by omega) (by rw [zsI_at])]
    have fin : ∀ (jj : Nat) (xj : Int32), xj = nI jj → jj < 20 → (jj + 20 - v) % 20 = (j + 20 - (v + 1)) % 20 → jj = (j + 19) % 20 → (∃ j u, zSta nb nk ns nr nh t j u (zsI (zrI (zsI I 0 7 xj) 3 (va_cpy ((zsI I 0 7 xj) 6) ((zsI I 0 7 xj) 3) (83 * jj) 0 83)) 0 8 (nI v)) (zrI (zsI I' 0 25 (nI v)) 10 (fun i => if 0 ≤ i ∧ i < 258 then (zsI I' 0 25 (nI v)) 11 (258 * v + i) else (zsI I' 0 25 (nI v)) 10 i))) ∧ zKC I (zsI (zrI (zsI I 0 7 xj) 3 (va_cpy ((zsI I 0 7 xj) 6) ((zsI I 0 7 xj) 3) (83 * jj) 0 83)) 0 8 (nI v)) ∧ zKM I' (zrI (zsI I' 0 25 (nI v)) 10 (fun i => if 0 ≤ i ∧ i < 258 then (zsI I' 0 25 (nI v)) 11 (258 * v + i) else (zsI I' 0 25 (nI v)) 10 i)) := by
      intro jj xj ex hjj emod ejj
      subst ex
      have hC : ∀ k, 83 ≤ k → (zsI (zrI (zsI I 0 7 (nI jj)) 3 (va_cpy ((zsI I 0 7 (nI jj)) 6) ((zsI I 0 7 (nI jj)) 3) (83 * jj) 0 83)) 0 8 (nI v)) 3 k = I 3 k := fun k hk => by
        rw [zsI_ne _ _ _ (by decide), zrI_row, zva_out (by omega), zsI_ne _ _ _ (by decide)]
      refine ⟨⟨jj, v, ?_, ?_, ⟨hjj, by omega, fun i hi => ?_⟩, ?_, ?_, ?_, ?_, ?_, ?_, ?_, ?_⟩, ⟨fun i hi => ?_, ?_⟩, ⟨fun i hi => ?_, ?_⟩⟩
      · obtain ⟨t1, t2, t3, t4⟩ := T
        refine ⟨?_, ?_, t3, fun i hi => ?_⟩
        · rw [zsI_no _ _ _ (by decide), zrI_ne _ _ (by decide), zsI_no _ _ _ (by decide)]
          exact t1
        · rw [zrI_ne _ _ (by decide), zsI_no _ _ _ (by decide)]
          exact t2
        · rw [zsI_ne _ _ _ (by decide), zrI_ne _ _ (by decide), zsI_ne _ _ _ (by decide), zrI_ne _ _ (by decide), zsI_ne _ _ _ (by decide)]
          exact t4 i hi
      · refine zGood_cong (hr v (by omega)) (fun k hk hk' => ?_) (fun k hk => ?_)
        · unfold zPw
          by_cases q : k < 83
          · rw [if_pos q, zsI_ne _ _ _ (by decide), zrI_row, zva_in (by omega), zsI_ne _ _ _ (by decide), show (j + 20 - (v + 1) + v) % 20 = jj by omega, show 83 * jj + (k - 0) = 83 * jj + k by omega]
          · rw [if_neg q, hC k (by omega)]
        · rw [zrI_row, if_pos (by omega), zsI_ne _ _ _ (by decide)]
      · refine zGood_cong (hr i (by omega)) (fun k hk hk' => ?_) (fun k hk => ?_)
        · unfold zPw
          by_cases q : k < 83
          · rw [if_pos q, if_pos q, zsI_ne _ _ _ (by decide), zrI_ne _ _ (by decide), zsI_ne _ _ _ (by decide), show (jj + 20 - v + i) % 20 = (j + 20 - (v + 1) + i) % 20 by omega]
          · rw [if_neg q, if_neg q, hC k (by omega)]
        · rw [zrI_ne _ _ (by decide), zsI_ne _ _ _ (by decide)]
      · rw [hC 83 (by omega), x, zrI_ne _ _ (by decide), zsI_no _ _ _ (by decide)]
      · rw [zrI_ne _ _ (by decide), zsI_no _ _ _ (by decide)]
        exact x0
      · rw [zrI_ne _ _ (by decide), zsI_no _ _ _ (by decide)]
        exact n
      · rw [zsI_no _ _ _ (by decide), zrI_ne _ _ (by decide), zsI_at]
      · rw [zsI_at]
      · rw [zrI_ne _ _ (by decide), zsI_at]
      · rw [zsI_no _ _ _ (by decide), zrI_ne _ _ (by decide), zsI_no _ _ _ (by decide), zrI_ne _ _ (by decide), zsI_no _ _ _ (by decide)]
        exact e5
      · rw [zsI_ne _ _ _ (by decide), zrI_ne _ _ (by decide), zsI_ne _ _ _ (by decide)]
        exact e6
      · rw [zsI_ne _ _ _ (by omega), zrI_ne _ _ (by omega), zsI_ne _ _ _ (by omega)]
      · rw [zsI_no _ _ _ (by decide), zrI_ne _ _ (by decide), zsI_no _ _ _ (by decide)]
      · rw [zrI_ne _ _ (by omega), zsI_ne _ _ _ (by omega)]
      · rw [zrI_ne _ _ (by decide), zsI_no _ _ _ (by decide)]
    rw [e7]
    by_cases qj : j = 0
    · subst qj
      rw [if_pos (show nI 0 = 0 from rfl), zif_t (by decide), zif_t (by decide), t0, t83, tj]
      exact ⟨_, _, _, _, _, rfl, rfl, fin 19 19 rfl (by omega) (by omega) (by omega)⟩
    · have qj1 : ¬ nI j = 0 := fun e => qj (znI (b := 0) (by omega) (by omega) e)
      obtain ⟨jj, rfl⟩ : ∃ jj, j = jj + 1 := ⟨j - 1, by omega⟩
      have ej : nI (jj + 1) - 1 = nI jj := by rw [← nI_1]; exact Int32.add_sub_cancel _ _
      rw [if_neg qj1, ej, z_j83, zif_t (show zrg (nI (83 * jj)) 83 1660 = true from zrg_n (a := 83 * jj) (n := 83) rfl rfl (by omega) (by omega)), zif_t (by decide), t0, t83, ztnn (by omega)]
      exact ⟨_, _, _, _, _, rfl, rfl, fin jj (nI jj) rfl (by omega) (by omega) (by omega)⟩
