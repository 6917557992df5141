/-! ===== a rule: a sum, in both ===== -/
theorem zty_app : ∀ (L M : List Nat) (ty ty' : List Bool), zty L ty = some ty' → zty (L ++ M) ty = zty M ty'
  | [], M, ty, ty', h => by cases h; rfl
  | x :: L, M, ty, ty', h => by
    have ih := zty_app L M
    by_cases q : x < 200000
    · simp only [zty, List.cons_append, if_pos q] at h ⊢
      exact ih _ _ h
    · by_cases q1 : x = 200011
      · rcases ty with _ | ⟨_ | _, ty⟩ <;> simp only [zty, List.cons_append, if_neg q, if_pos q1] at h ⊢ <;> first | exact ih _ _ h | cases h
      · by_cases q2 : x < 200004
        · rcases ty with _ | ⟨_ | _, _ | ⟨_ | _, ty⟩⟩ <;> simp only [zty, List.cons_append, if_neg q, if_neg q1, if_pos q2] at h ⊢ <;> first | exact ih _ _ h | cases h
        · by_cases q3 : x < 200009
          · rcases ty with _ | ⟨_ | _, _ | ⟨_ | _, ty⟩⟩ <;> simp only [zty, List.cons_append, if_neg q, if_neg q1, if_neg q2, if_pos q3] at h ⊢ <;> first | exact ih _ _ h | cases h
          · rcases ty with _ | ⟨_ | _, _ | ⟨_ | _, ty⟩⟩ <;> simp only [zty, List.cons_append, if_neg q, if_neg q1, if_neg q2, if_neg q3] at h ⊢ <;> first | exact ih _ _ h | cases h
def zpn : Option Nat → Nat
  | none => 0
  | some _ => 1
def zpt (o : Option Nat) (ty : List Bool) : List Bool := match o with
  | none => ty
  | some _ => false :: ty
def zOk (o : Option Nat) : Prop := ∀ y, o = some y → 200000 ≤ y ∧ y < 200004
theorem zsgn_j {y : Nat} (h : 200000 ≤ y) : nI (zjs y) + 16 * 0 = nI (zsgn y) := by
  unfold zsgn
  rw [if_neg (by omega), if_neg (by omega), show (16 : Int32) * 0 = 0 by decide, z_add0]
  congr 1
  omega
/-- what is pending is put -/
theorem p_opt {t : Nat} {B : Nat → Nat} {tt p m : Nat} {L : List Nat} {o : Option Nat} {σ : zSg} {I I' : zTI} {J J' : zTJ} (H : zRd t B tt p L m I I') (htt : tt < 6) (hL : L.length + zpn o ≤ 400) (ho : zOk o) : ∃ I1 I1' M, (∀ k : zTI → zTJ → Option zR, zqPc o σ I J k = k I1 J) ∧ (∀ k : zTI → zTJ → Option zR, zPm o I' J' k = k I1' J') ∧ zRd t B tt p (L ++ M) m I1 I1' ∧ zHc I I1 ∧ zHs tt I' I1' ∧ M.length = zpn o ∧ ∀ ty, zty M (false :: zpt o ty) = some (false :: ty) := by
  cases o with
  | none => exact ⟨I, I', [], fun k => if_pos rfl, fun k => rfl, by rw [List.append_nil]; exact H, zHc.rf, zHs.rf, rfl, fun ty => rfl⟩
  | some y =>
    have hy := ho y rfl
    obtain ⟨I1, I1', h1, h2, h3, h4, h5, h6, h7⟩ := p_putJ (σ := σ) (J := J) (J' := J') H htt (show L.length < 400 from by have : zpn (some y) = 1 := rfl; omega) (x := y) (by omega)
    refine ⟨I1, I1', [y], fun k => ?_, fun k => ?_, h3, h4, h5, rfl, fun ty => ?_⟩
    · unfold zqPc
      rw [show zkE (some y) = nI y from rfl, if_neg (znm (by omega)), h1, zkV_s]
    · show zkV (qm_puts (nI (zjs y)) 0 I' J') zSM k = _
      rw [h2 _ _ (zsgn_j hy.1), zkV_s]
    · show zty [y] (false :: false :: ty) = _
      simp only [zty, if_neg (show ¬ y < 200000 by omega), if_neg (show ¬ y = 200011 by omega), if_pos hy.2]
theorem zTm_0 {s : Option Nat} {I : zTI} {J : zTJ} : zqTm s (some (some (.int 0), (zSM, I, J))) = some (some (.int 0), (zSM, I, J)) := by
  unfold zqTm
  rw [zkI_s, if_pos rfl]
theorem zSm_0 {s : Option Nat} {I : zTI} {J : zTJ} : zSm s (some (some (.int 0), (zSM, I, J))) = some (some (.int 0), (zSM, I, J)) := by
  unfold zSm
  rw [zkI_s, if_pos rfl]
theorem zTm_1 {s : Option Nat} {I : zTI} {J : zTJ} : zqTm s (some (some (.int 1), (zSM, I, J))) = zPm s I J (fun I1 J1 => qm_term_9 I1 J1) := by
  unfold zqTm
  rw [zkI_s, if_neg z10]
theorem zSm_1 {s : Option Nat} {I : zTI} {J : zTJ} : zSm s (some (some (.int 1), (zSM, I, J))) = zPm s I J (fun I1 J1 => qm_sum_9 I1 J1) := by
  unfold zSm
  rw [zkI_s, if_neg z10]
theorem zRd_q {t : Nat} {B : Nat → Nat} {tt p m : Nat} {L : List Nat} {I I' : zTI} (H : zRd t B tt p L m I I') : zRd t B tt (zru (zbl B) t p) L m I (zsI I' 0 9 (nI (zru (zbl B) t p))) := by
  obtain ⟨⟨a1, a2, b1, b2, hp, T, b10⟩, C, e9, e13, hm, hv⟩ := H
  exact ⟨⟨a1, by rw [zru_id]; exact a2, by rw [zsI_no _ _ _ (by decide)]; exact b1, zsI_at _ _ _ _, zru_le p hp, by rw [zsI_ne _ _ _ (by decide)]; exact T, by rw [zsI_no _ _ _ (by decide)]; exact b10⟩, zCo_c C rfl rfl (zsI_no _ _ _ (by decide)) (zsI_ne _ _ _ (by decide)) (zsI_ne _ _ _ (by decide)), e9, by rw [zsI_no _ _ _ (by decide)]; exact e13, hm, hv⟩
/-- a sign is passed -/
theorem zRd_1 {t : Nat} {B : Nat → Nat} {tt p m q : Nat} {L : List Nat} {I I' : zTI} (H : zRd t B tt p L m I I') (hq : q < t) : zRd t B tt (q + 1) L m (zsI I 11 2 (nI (zru (zbl B) t (q + 1)))) (zsI I' 0 9 (nI (q + 1))) := by
  obtain ⟨⟨a1, a2, b1, b2, hp, T, b10⟩, C, e9, e13, hm, hv⟩ := H
  exact ⟨⟨by rw [zsI_no _ _ _ (by decide)]; exact a1, zsI_at _ _ _ _, by rw [zsI_no _ _ _ (by decide)]; exact b1, zsI_at _ _ _ _, by omega, by rw [zsI_ne _ _ _ (by decide), zsI_ne _ _ _ (by decide)]; exact T, by rw [zsI_no _ _ _ (by decide)]; exact b10⟩, zCo_c C (zsI_no _ _ _ (by decide)) (zsI_ne _ _ _ (by decide)) (zsI_no _ _ _ (by decide)) (zsI_ne _ _ _ (by decide)) (zsI_ne _ _ _ (by decide)), by rw [zsI_no _ _ _ (by decide)]; exact e9, by rw [zsI_no _ _ _ (by decide)]; exact e13, hm, hv.1, by rw [zsI_no _ _ _ (by decide)]; exact hv.2⟩
def zSu (t : Nat) (B : Nat → Nat) (tt p m : Nat) (L : List Nat) (a s : Option Nat) (I I' : zTI) (r : Int32) (I1 I1' : zTI) : Prop := zHc I I1 ∧ zHs tt I' I1' ∧ ((r = 0 ∧ zBad 11 I1 I1') ∨ (r = 1 ∧ ∃ p1 m1 L1, p < p1 ∧ m < m1 ∧ zRd t B tt p1 (L ++ L1) m1 I1 I1' ∧ L1.length + p ≤ zpn a + zpn s + p1 ∧ ∀ ty, zty L1 (zpt s (zpt a ty)) = some (false :: ty)))
set_option maxHeartbeats 8000000 in
theorem p_sumL {σ : zSg} {J J' : zTJ} {t tt : Nat} {B : Nat → Nat} (htt : tt < 6) : ∀ (n : Nat) (a s : Option Nat) (v p m : Nat) (L : List Nat) (I I' : zTI), t + 1 - p ≤ n → zRd t B tt p L m I I' → L.length + zpn a + zpn s ≤ p → v ≤ m → zOk a → zOk s → ∃ r I1 I1', qu_readSum_6 (zkE a) (zkE s) (nI v) σ I J = some (some (.int r), (zSC σ, I1, J)) ∧ zSm a (zqTm s (qm_value I' J')) = some (some (.int r), (zSM, I1', J')) ∧ zSu t B tt p m L a s I I' r I1 I1' := by
  intro n
  induction n with
  | zero =>
    intro a s v p m L I I' hn H
    have := H.1.2.2.2.2.1
    omega
  | succ n ih =>
    intro a s v p m L I I' hn H hL hv ha hs
    have hm60 := H.2.2.2.2.1
    obtain ⟨r, I1, I1', h1, h2, h3, h4, h5⟩ := p_value (σ := σ) (J := J) (J' := J') H htt (by omega)
    rw [t_sum6, if_neg (show ¬ (60 : Int32) < nI v from fun h => by have := (nI_ltI (a := 60) (by omega) (by omega)).mp h; omega), h1, zkI_s, h2]
    rcases h5 with ⟨rfl, hb⟩ | ⟨rfl, p1, x, hx, hp1, hm, H1⟩
    · rw [if_pos rfl, zTm_0, zSm_0]
      exact ⟨0, I1, I1', rfl, rfl, h3, h4, Or.inl ⟨rfl, hb⟩⟩
    have hp1t := H1.1.2.2.2.2.1
    have ht := H1.1.2.2.2.2.2.1.1
    obtain ⟨I2, I2', M, g1, g2, g3, g4, g5, g6, g7⟩ := p_opt (σ := σ) (J := J) (J' := J') H1 htt (by rw [List.length_append, List.length_singleton]; omega) hs
    have hc := g1 (fun I J => zCs (zkE a) (nI v) σ I J)
    unfold zqPc at hc
    rw [if_neg z10, hc, zTm_1, g2]
    have g7' : ∀ ty, zty ([x] ++ M) (zpt s ty) = some (false :: ty) := fun ty => by
      rw [zty_app [x] M _ (false :: zpt s ty) (by simp only [zty, if_pos (show x < 200000 by omega)])]
      exact g7 ty
    have hlen : (L ++ [x] ++ M).length = L.length + 1 + zpn s := by rw [List.length_append, List.length_append, List.length_singleton, g6]
    obtain ⟨⟨a1, a2, b1, b2, hp, T, b10⟩, C, e9, e13, -, hnv⟩ := id g3
    have hq := zru_le (P := zbl B) (t := t) p1 hp
    have hpq := zru_ge (P := zbl B) (t := t) p1
    by_cases hS : zru (zbl B) t p1 < t ∧ (B (zru (zbl B) t p1) = 42 ∨ B (zru (zbl B) t p1) = 47)
    · rw [p_csS T a1 a2 hS.1 hS.2, p_t9S T b1 b2 hp rfl hS.1 hS.2]
      obtain ⟨r, I3, I3', k1, k2, k3, k4, k5⟩ := ih a (some (if B (zru (zbl B) t p1) = 42 then 200002 else 200003)) (v + 1) (zru (zbl B) t p1 + 1) (m + 1) (L ++ [x] ++ M) _ _ (by omega) (zRd_1 g3 hS.1) (by rw [hlen]; show _ + zpn a + 1 ≤ _; omega) (by omega) ha (fun y hy => by
        cases hy
        split <;> omega)
      have ek : zkE (some (if B (zru (zbl B) t p1) = 42 then 200002 else 200003)) = if B (zru (zbl B) t p1) = 42 then 200002 else 200003 := by
        split <;> rfl
      rw [ek, ← nI_1] at k1
      rw [k1, k2]
      refine ⟨r, I3, I3', rfl, rfl, ((h3.tr g4).tr (zHc.s (by omega))).tr k3, ((h4.tr g5).tr (zHs.s (by omega))).tr k4, ?_⟩
      rcases k5 with k | ⟨k, p2, m2, L2, u1, u2, u3, u4, u5⟩
      · exact Or.inl k
      · refine Or.inr ⟨k, p2, m2, [x] ++ M ++ L2, by omega, by omega, by rw [← List.append_assoc, ← List.append_assoc]; exact u3, ?_, fun ty => ?_⟩
        · rw [List.length_append, List.length_append, List.length_singleton, g6]
          have : zpn (some (if B (zru (zbl B) t p1) = 42 then 200002 else 200003)) = 1 := rfl
          omega
        · rw [zty_app ([x] ++ M) L2 _ _ (g7' (zpt a ty))]
          exact u5 ty
    · rw [p_t9E T b1 b2 hp rfl hS, zSm_1]
      have H4 := zRd_q g3
      obtain ⟨I4, I4', N, f1, f2, f3, f4, f5, f6, f7⟩ := p_opt (σ := σ) (J := J) (J' := J') H4 htt (by rw [hlen]; omega) ha
      rw [f2]
      obtain ⟨⟨c1, c2, d1, d2, -, T4, d10⟩, -⟩ := id f3
      rw [zru_id] at c2
      have fN : ∀ ty, zty ([x] ++ M ++ N) (zpt s (zpt a ty)) = some (false :: ty) := fun ty => by
        rw [zty_app ([x] ++ M) N _ _ (g7' (zpt a ty))]
        exact f7 ty
      by_cases hA : zru (zbl B) t p1 < t ∧ (B (zru (zbl B) t p1) = 43 ∨ B (zru (zbl B) t p1) = 45)
      · have hc2 := f1 (fun I1 J1 => (zkV (qn_takeSign 11 σ I1 J1) (zSC σ) (fun I2 J2 => qu_readSum_6 (if B (zru (zbl B) t p1) = 43 then 200000 else 200001) (-1) (nI v + 1) σ I2 J2)))
        unfold zqPc at hc2
        rw [p_csA T a1 a2 hA.1 hA.2, hc2, p_takeS s11 T4 c1 c2 hA.1, zkV_s, p_s9A T4 d1 d2 hq zru_id hA.1 hA.2]
        obtain ⟨r, I3, I3', k1, k2, k3, k4, k5⟩ := ih (some (if B (zru (zbl B) t p1) = 43 then 200000 else 200001)) none (v + 1) (zru (zbl B) t p1 + 1) (m + 1) (L ++ [x] ++ M ++ N) _ _ (by omega) (zRd_1 f3 hA.1) (by rw [List.length_append, hlen, f6]; show _ + 1 + 0 ≤ _; omega) (by omega) (fun y hy => by
          cases hy
          split <;> omega) (fun y hy => by cases hy)
        have ek : zkE (some (if B (zru (zbl B) t p1) = 43 then 200000 else 200001)) = if B (zru (zbl B) t p1) = 43 then 200000 else 200001 := by
          split <;> rfl
        rw [ek, ← nI_1, show zkE none = -1 from rfl] at k1
        rw [k1, k2]
        refine ⟨r, I3, I3', rfl, rfl, (((h3.tr g4).tr f4).tr (zHc.s (by omega))).tr k3, ((((h4.tr g5).tr (zHs.s (by omega))).tr f5).tr (zHs.s (by omega))).tr k4, ?_⟩
        rcases k5 with k | ⟨k, p2, m2, L2, u1, u2, u3, u4, u5⟩
        · exact Or.inl k
        · refine Or.inr ⟨k, p2, m2, [x] ++ M ++ N ++ L2, by omega, by omega, by rw [← List.append_assoc, ← List.append_assoc, ← List.append_assoc]; exact u3, ?_, fun ty => ?_⟩
          · rw [List.length_append, List.length_append, List.length_append, List.length_singleton, g6, f6]
            have e1 : zpn (some (if B (zru (zbl B) t p1) = 43 then 200000 else 200001)) = 1 := rfl
            have e2 : zpn none = 0 := rfl
            omega
          · rw [zty_app ([x] ++ M ++ N) L2 _ _ (fN ty)]
            exact u5 ty
      · have hc2 := f1 (fun I1 J1 => (some (some (.int 1), ((zSC σ), I1, J1))))
        unfold zqPc at hc2
        rw [p_csE T a1 a2 hq (fun h => by
          rcases h with ⟨h0, h | h | h | h⟩
          · exact hS ⟨h0, Or.inl h⟩
          · exact hS ⟨h0, Or.inr h⟩
          · exact hA ⟨h0, Or.inl h⟩
          · exact hA ⟨h0, Or.inr h⟩), hc2, p_s9E T4 d1 d2 hq zru_id hA]
        have e9' : zsI I4' 0 9 (nI (zru (zbl B) t p1)) = I4' := by rw [← d2, zsI_id]
        rw [e9']
        refine ⟨1, I4, I4', rfl, rfl, (h3.tr g4).tr f4, ((h4.tr g5).tr (zHs.s (by omega))).tr f5, Or.inr ⟨rfl, zru (zbl B) t p1, m + 1, [x] ++ M ++ N, by omega, by omega, by rw [← List.append_assoc, ← List.append_assoc]; exact f3, ?_, fN⟩⟩
        rw [List.length_append, List.length_append, List.length_singleton, g6, f6]
        omega
/-- a sum, in both -/
theorem p_sum {σ : zSg} {I I' : zTI} {J J' : zTJ} {t tt p m : Nat} {B : Nat → Nat} {L : List Nat} (H : zRd t B tt p L m I I') (htt : tt < 6) (hL : L.length ≤ p) : ∃ r I1 I1', qu_readSum σ I J = some (some (.int r), (zSC σ, I1, J)) ∧ qm_sum I' J' = some (some (.int r), (zSM, I1', J')) ∧ zSu t B tt p m L none none I I' r I1 I1' := by
  rw [t_qu_readSum, zsm_t]
  exact p_sumL htt (t + 1 - p) none none 0 p m L I I' (Nat.le_refl _) H (by show _ + 0 + 0 ≤ _; omega) (by omega) (fun y h => by cases h) (fun y h => by cases h)
