/-! ===== a rule: what stands open in a test ===== -/
/-- the class's code, the reference's -/
def zCk (L : List Nat) (I : zTI) : Prop := I 11 6 = nI L.length ∧ ∀ j, j < L.length → I 13 j = nI (L[j]?.getD 0)
def zCn (tt : Nat) (L : List Nat) (I' : zTI) : Prop := I' 0 12 = nI tt ∧ I' 3 tt = nI L.length ∧ ∀ j, j < L.length → I' 2 (400 * tt + j) = nI (zsgn (L[j]?.getD 0))
theorem zCo_i {tt : Nat} {L : List Nat} {I I' : zTI} : zCo tt L I I' ↔ zCk L I ∧ zCn tt L I' ∧ ∀ x, x ∈ L → zvt x :=
  ⟨fun h => ⟨⟨h.1, fun j hj => (h.2.2.2.1 j hj).1⟩, ⟨h.2.1, h.2.2.1, fun j hj => (h.2.2.2.1 j hj).2⟩, h.2.2.2.2⟩, fun h => ⟨h.1.1, h.2.1.1, h.2.1.2.1, fun j hj => ⟨h.1.2 j hj, h.2.1.2.2 j hj⟩, h.2.2⟩⟩
theorem p_putC {L : List Nat} {x : Nat} {σ : zSg} {I : zTI} {J : zTJ} (C : zCk L I) (hL : L.length < 400) : ∃ I1, qu_put (nI x) σ I J = some (none, (zSC σ, I1, J)) ∧ zCk (L ++ [x]) I1 ∧ zHc I I1 ∧ ∀ k, k ≠ 6 → I1 11 k = I 11 k := by
  obtain ⟨c1, c4⟩ := C
  refine ⟨zsI (zsI I 13 L.length (nI x)) 11 6 (nI (L.length + 1)), ?_, ⟨?_, fun j hj => ?_⟩, ⟨fun i a b => ?_, fun k _ _ _ a _ => ?_⟩, fun k a => ?_⟩
  · rw [t_qu_put, c1, if_pos (show nI L.length < (400 : Int32) from nI_lt (b := 400) hL (by omega)), zif_n hL (by omega), ztnn (by omega), nI_1]
  · rw [zsI_at, List.length_append]; rfl
  · rw [zsI_ne _ _ _ (by decide)]
    rw [List.length_append, List.length_singleton] at hj
    by_cases q : j = L.length
    · subst q
      rw [zsI_at, zat_e]
    · rw [zsI_no _ _ _ q, zat_l (by omega)]
      exact c4 j (by omega)
  · rw [zsI_ne _ _ _ a, zsI_ne _ _ _ b]
  · rw [zsI_no _ _ _ a, zsI_ne _ _ _ (by decide)]
  · rw [zsI_no _ _ _ a, zsI_ne _ _ _ (by decide)]
theorem p_putM {tt : Nat} {L : List Nat} {x : Nat} {I' : zTI} {J' : zTJ} {s v : Int32} (C : zCn tt L I') (htt : tt < 6) (hL : L.length < 400) (e : s + 16 * v = nI (zsgn x)) : ∃ I1', qm_puts s v I' J' = some (none, (zSM, I1', J')) ∧ zCn tt (L ++ [x]) I1' ∧ (∀ i, i ≠ 2 → i ≠ 3 → I1' i = I' i) ∧ ∀ j, j < 400 * tt → I1' 2 j = I' 2 j := by
  obtain ⟨c2, c3, c4⟩ := C
  have e4 : (400 : Int32) * nI tt + nI L.length = nI (400 * tt + L.length) := by
    rw [show (400 : Int32) * nI tt = nI (400 * tt) from (Int32.ofNat_mul 400 tt).symm, nI_add]
  refine ⟨zsI (zsI I' 2 (400 * tt + L.length) (nI (zsgn x))) 3 tt (nI (L.length + 1)), ?_, ⟨?_, ?_, fun j hj => ?_⟩, fun i a b => ?_, fun j hj => ?_⟩
  · rw [t_qm_puts, c2, ztnn (by omega), c3, e4, zif_n (by omega) (by omega), zif_n (by omega) (by omega), zif_n (by omega) (by omega), zif_n (by omega) (by omega), ztnn (by omega), e, nI_1]
  · rw [zsI_ne _ _ _ (by decide), zsI_ne _ _ _ (by decide)]; exact c2
  · rw [zsI_at, List.length_append]; rfl
  · rw [zsI_ne _ _ _ (by decide)]
    rw [List.length_append, List.length_singleton] at hj
    by_cases q : j = L.length
    · subst q
      rw [zsI_at, zat_e]
    · rw [zsI_no _ _ _ (by omega), zat_l (by omega)]
      exact c4 j (by omega)
  · rw [zsI_ne _ _ _ b, zsI_ne _ _ _ a]
  · rw [zsI_ne _ _ _ (by decide), zsI_no _ _ _ (by omega)]
/-- what stands open, the eldest first -/
def zSk (Q : List Nat) (I' : zTI) : Prop := I' 0 17 = nI Q.length ∧ ∀ i, i < Q.length → I' 7 i = nI (Q[i]?.getD 0)
theorem zSk_c {Q : List Nat} {I I1 : zTI} (h : zSk Q I) (h1 : I1 0 17 = I 0 17) (h2 : I1 7 = I 7) : zSk Q I1 := ⟨by rw [h1]; exact h.1, by rw [h2]; exact h.2⟩
/-- what reading a test leaves as it is -/
def zHt (tt : Nat) (I I1 : zTI) : Prop := (∀ i, i ≠ 0 → i ≠ 2 → i ≠ 3 → i ≠ 7 → I1 i = I i) ∧ (∀ k, k ≠ 9 → k ≠ 10 → k ≠ 11 → k ≠ 13 → k ≠ 14 → k ≠ 17 → I1 0 k = I 0 k) ∧ ∀ j, j < 400 * tt → I1 2 j = I 2 j
theorem zHt.rf {tt : Nat} {I : zTI} : zHt tt I I := ⟨fun _ _ _ _ _ => rfl, fun _ _ _ _ _ _ _ => rfl, fun _ _ => rfl⟩
theorem zHt.tr {tt : Nat} {I I1 I2 : zTI} (h : zHt tt I I1) (g : zHt tt I1 I2) : zHt tt I I2 := ⟨fun i a b c d => (g.1 i a b c d).trans (h.1 i a b c d), fun k a b c d e f => (g.2.1 k a b c d e f).trans (h.2.1 k a b c d e f), fun j a => (g.2.2 j a).trans (h.2.2 j a)⟩
theorem zHs.t {tt : Nat} {I I1 : zTI} (h : zHs tt I I1) : zHt tt I I1 := ⟨fun i a b c _ => h.1 i a b c, fun k a b c d _ _ => h.2.1 k a b c d, h.2.2⟩
theorem zHt.s {tt : Nat} {I : zTI} {k : Nat} {v : Int32} (hk : k = 9 ∨ k = 10 ∨ k = 11 ∨ k = 13 ∨ k = 14 ∨ k = 17) : zHt tt I (zsI I 0 k v) := ⟨fun i a _ _ _ => zsI_ne _ _ _ a, fun j a b c d e f => zsI_no _ _ _ (by omega), fun j _ => by rw [zsI_ne _ _ _ (by decide)]⟩
theorem zHt.s7 {tt : Nat} {I : zTI} {k : Nat} {v : Int32} : zHt tt I (zsI I 7 k v) := ⟨fun i _ _ _ a => zsI_ne _ _ _ a, fun j _ _ _ _ _ _ => by rw [zsI_ne _ _ _ (by decide)], fun j _ => by rw [zsI_ne _ _ _ (by decide)]⟩
/-- how strong a sign binds -/
def zsr (x : Nat) : Nat := if x = 13 then 1 else if x = 12 then 2 else if x = 11 then 3 else 0
theorem p_str {I : zTI} {J : zTJ} {x : Nat} (hx : x < 1000) : qm_strength (nI x) I J = some (some (.int (nI (zsr x))), (zSM, I, J)) := by
  rw [t_qm_strength, z_iff (by omega) (show (13 : Int32) = nI 13 from rfl) (by omega), z_iff (by omega) (show (12 : Int32) = nI 12 from rfl) (by omega), z_iff (by omega) (show (11 : Int32) = nI 11 from rfl) (by omega)]
  unfold zsr
  by_cases h1 : x = 13
  · rw [if_pos h1, if_pos h1]; rfl
  rw [if_neg h1, if_neg h1]
  by_cases h2 : x = 12
  · rw [if_pos h2, if_pos h2]; rfl
  rw [if_neg h2, if_neg h2]
  by_cases h3 : x = 11
  · rw [if_pos h3, if_pos h3]; rfl
  rw [if_neg h3, if_neg h3]; rfl
theorem zsr_le {x : Nat} : zsr x ≤ 3 := by
  unfold zsr
  split
  · omega
  · split
    · omega
    · split <;> omega
/-- nothing is settled -/
theorem p_set0 {Q : List Nat} {I : zTI} {J : zTJ} {s : Nat} {y : Int32} (hy : y = nI s) (hs : s < 10) (K : zSk Q I) (hQ : Q.length ≤ 400) (h : ∀ Q0 x, Q = Q0 ++ [x] → zsr x < s ∧ x < 1000) : qm_settles y I J = some (none, (zSM, I, J)) := by
  subst hy
  rw [t_qm_settles, K.1]
  rcases List.eq_nil_or_concat Q with rfl | ⟨Q0, x, rfl⟩
  · rw [if_neg (show ¬ (0 : Int32) < nI ([] : List Nat).length by decide)]
  · rw [List.concat_eq_append] at *
    obtain ⟨h1, h2⟩ := h Q0 x rfl
    have hl : (Q0 ++ [x]).length = Q0.length + 1 := by rw [List.length_append, List.length_singleton]
    have hx := K.2 Q0.length (by omega)
    rw [zat_e] at hx
    rw [hl, if_pos (show (0 : Int32) < nI (Q0.length + 1) from nI_lt (a := 0) (by omega) (by omega)), show nI (Q0.length + 1) - 1 = nI Q0.length from z_sub1 (k := 1) (by omega), zif_n (by omega) (by omega), ztnn (by omega), hx, p_str h2, zkI_s, if_pos (nI_lt h1 (by omega))]
/-- one sign is settled -/
theorem p_set1 {tt : Nat} {L : List Nat} {Q : List Nat} {x y s k : Nat} {z : Int32} {I : zTI} {J : zTJ} (hz : z = nI s) (htt : tt < 6) (C : zCn tt L I) (K : zSk (Q ++ [x]) I) (e14 : I 0 14 = nI k) (hs : s ≤ zsr x) (hx : x < 1000) (hL : L.length < 400) (hQ : Q.length < 400) (hy : nI x + 16 * 0 = nI (zsgn y)) (hk : x = 11 → 1 ≤ k) : ∃ I1, qm_settles z I J = qm_settles z I1 J ∧ zCn tt (L ++ [y]) I1 ∧ zSk Q I1 ∧ I1 0 14 = nI (if x = 11 then k - 1 else k) ∧ zHt tt I I1 ∧ I1 7 = I 7 ∧ ∀ j, j ≠ 14 → j ≠ 17 → I1 0 j = I 0 j := by
  subst hz
  have hl : (Q ++ [x]).length = Q.length + 1 := by rw [List.length_append, List.length_singleton]
  have hxq := K.2 Q.length (by omega)
  rw [zat_e] at hxq
  have hz3 := zsr_le (x := x)
  obtain ⟨I1, h1, h2, h3, h4⟩ := p_putM (J' := J) (I' := zsI I 0 17 (nI Q.length)) (x := y) ⟨by rw [zsI_no _ _ _ (by decide)]; exact C.1, by rw [zsI_ne _ _ _ (by decide)]; exact C.2.1, by rw [zsI_ne _ _ _ (by decide)]; exact C.2.2⟩ htt hL hy
  have g17 : I1 0 17 = nI Q.length := by rw [h3 0 (by decide) (by decide), zsI_at]
  have g7 : I1 7 = I 7 := by rw [h3 7 (by decide) (by decide), zsI_ne _ _ _ (by decide)]
  have g0 : ∀ j, j ≠ 17 → I1 0 j = I 0 j := fun j hj => by rw [h3 0 (by decide) (by decide), zsI_no _ _ _ hj]
  have g2 : ∀ j, j < 400 * tt → I1 2 j = I 2 j := fun j hj => by rw [h4 j hj, zsI_ne _ _ _ (by decide)]
  have gr : ∀ i, i ≠ 0 → i ≠ 2 → i ≠ 3 → I1 i = I i := fun i a b c => by rw [h3 i b c, zsI_ne _ _ _ a]
  have gS : zSk Q I1 := ⟨g17, fun i hi => by
    rw [g7]
    have := K.2 i (by omega)
    rw [zat_l hi] at this
    exact this⟩
  rw [t_qm_settles, K.1, hl, if_pos (show (0 : Int32) < nI (Q.length + 1) from nI_lt (a := 0) (by omega) (by omega)), show nI (Q.length + 1) - 1 = nI Q.length from z_sub1 (k := 1) (by omega), zif_n (by omega) (by omega), ztnn (by omega), hxq, p_str hx, zkI_s, if_neg (show ¬ nI (zsr x) < nI s from fun h => by have := (nI_ltI (by omega) (by omega)).mp h; omega), K.1, hl, show nI (Q.length + 1) - 1 = nI Q.length from z_sub1 (k := 1) (by omega), zif_n (by omega) (by omega), ztnn (by omega), hxq, h1, zkV_s, g17, zif_n (by omega) (by omega), ztnn (by omega), g7, hxq]
  by_cases q : x = 11
  · rw [if_pos (show nI x = (11 : Int32) by rw [q]; rfl), if_pos q, g0 14 (by decide), e14, show nI k - 1 = nI (k - 1) from z_sub1 (k := 1) (hk q)]
    refine ⟨_, rfl, ⟨by rw [zsI_no _ _ _ (by decide)]; exact h2.1, by rw [zsI_ne _ _ _ (by decide)]; exact h2.2.1, by rw [zsI_ne _ _ _ (by decide)]; exact h2.2.2⟩, zSk_c gS (zsI_no _ _ _ (by decide)) (zsI_ne _ _ _ (by decide)), zsI_at _ _ _ _, ⟨fun i a b c _ => by rw [zsI_ne _ _ _ a]; exact gr i a b c, fun j _ _ _ _ a b => by rw [zsI_no _ _ _ a]; exact g0 j b, fun j hj => by rw [zsI_ne _ _ _ (by decide)]; exact g2 j hj⟩, by rw [zsI_ne _ _ _ (by decide)]; exact g7, fun j a b => by rw [zsI_no _ _ _ a]; exact g0 j b⟩
  · rw [if_neg (show ¬ nI x = (11 : Int32) from fun h => q (znI (b := 11) (by omega) (by omega) h)), if_neg q]
    exact ⟨I1, rfl, h2, gS, by rw [g0 14 (by decide)]; exact e14, ⟨fun i a b c _ => gr i a b c, fun j _ _ _ _ _ b => g0 j b, g2⟩, g7, fun j _ b => g0 j b⟩
/-- is there a bracket open -/
theorem p_inside {Q : List Nat} {I : zTI} {J : zTJ} (K : zSk Q I) (hQ : Q.length ≤ 400) (hs : ∀ x, x ∈ Q → x < 1000) : qm_isInside I J = some (some (.int (if 91 ∈ Q then 1 else 0)), (zSM, I, J)) := by
  rw [t_qm_isInside]
  have key : ∀ (d i : Nat), i + d = Q.length → qm_isInside_2 (nI i) I J = some (some (.int (if 91 ∈ Q.drop i then 1 else 0)), (zSM, I, J)) := by
    intro d
    induction d with
    | zero =>
      intro i hi
      rw [t_qm_isInside_2, K.1, if_neg (fun h => by have := (nI_ltI (by omega) (by omega)).mp h; omega), List.drop_eq_nil_of_le (by omega), if_neg (by simp)]
    | succ d ih =>
      intro i hi
      have hi' : i < Q.length := by omega
      have hg : Q[i]?.getD 0 = Q[i] := by rw [List.getElem?_eq_getElem hi']; rfl
      have hlt := hs Q[i] (List.getElem_mem hi')
      rw [t_qm_isInside_2, K.1, if_pos (nI_lt hi' (by omega)), zif_n (by omega) (by omega), ztnn (by omega), K.2 i hi', hg, List.drop_eq_getElem_cons hi']
      by_cases q : Q[i] = 91
      · rw [if_pos (show nI Q[i] = (91 : Int32) by rw [q]; rfl), if_pos (by rw [q]; exact List.mem_cons_self)]
      · rw [if_neg (show ¬ nI Q[i] = (91 : Int32) from fun h => q (znI (b := 91) (by omega) (by omega) h)), nI_1, ih (i + 1) (by omega)]
        by_cases q2 : 91 ∈ Q.drop (i + 1)
        · rw [if_pos q2, if_pos (List.mem_cons_of_mem _ q2)]
        · rw [if_neg q2, if_neg (fun h => by
            rcases List.mem_cons.mp h with h | h
            · exact q h.symm
            · exact q2 h)]
  exact key Q.length 0 (by omega)
/-- the reference behind a fact; ahead of one -/
noncomputable def zAf (I : zTI) (J : zTJ) : Option zR := (zkI (qm_isWord 6385252 I J) zSM (fun r19 I17 J18 => (if r19 = 0 then (zkI (qm_isWord 28530 I17 J18) zSM (fun r22 I20 J21 => (if r22 = 0 then (qm_tested_12 0 I20 J21) else (zkI (qm_isWord 6385252 I20 J21) zSM (fun r25 I23 J24 => (if r25 = 0 then (zkV (qm_passWord I23 J24) zSM (fun I26 J27 => (zkI (qm_strength 13 I26 J27) zSM (fun r30 I28 J29 => (zkV (qm_settles r30 I28 J29) zSM (fun I31 J32 => (zif (zin (I31 0 17) 400) (qm_tested_12 1 (zsI (zsI I31 7 ((I31 0 17).toNatClampNeg) 13) 0 17 ((I31 0 17) + 1)) J32)))))))) else (zkV (qm_passWord I23 J24) zSM (fun I33 J34 => (zkI (qm_strength 12 I33 J34) zSM (fun r37 I35 J36 => (zkV (qm_settles r37 I35 J36) zSM (fun I38 J39 => (zif (zin (I38 0 17) 400) (qm_tested_12 1 (zsI (zsI I38 7 ((I38 0 17).toNatClampNeg) 12) 0 17 ((I38 0 17) + 1)) J39)))))))))))))) else (zkI (qm_isWord 6385252 I17 J18) zSM (fun r42 I40 J41 => (if r42 = 0 then (zkV (qm_passWord I40 J41) zSM (fun I43 J44 => (zkI (qm_strength 13 I43 J44) zSM (fun r47 I45 J46 => (zkV (qm_settles r47 I45 J46) zSM (fun I48 J49 => (zif (zin (I48 0 17) 400) (qm_tested_12 1 (zsI (zsI I48 7 ((I48 0 17).toNatClampNeg) 13) 0 17 ((I48 0 17) + 1)) J49)))))))) else (zkV (qm_passWord I40 J41) zSM (fun I50 J51 => (zkI (qm_strength 12 I50 J51) zSM (fun r54 I52 J53 => (zkV (qm_settles r54 I52 J53) zSM (fun I55 J56 => (zif (zin (I55 0 17) 400) (qm_tested_12 1 (zsI (zsI I55 7 ((I55 0 17).toNatClampNeg) 12) 0 17 ((I55 0 17) + 1)) J56))))))))))))))
noncomputable def zG0 (I : zTI) (J : zTJ) : Option zR := zkV (qm_closes I J) zSM (fun I15 J16 => zAf I15 J16)
noncomputable def zF0 (I : zTI) (J : zTJ) : Option zR := zkI (qm_fact_2 1 I J) zSM (fun r I J => if r = 0 then some (some (.int 0), (zSM, I, J)) else zG0 I J)
theorem t_12 (I : zTI) (J : zTJ) : qm_tested_12 1 I J = zF0 I J := by
  rw [t_qm_tested_12, if_neg z10, t_qm_fact]
  rfl
theorem zG0_e {I I1 : zTI} {J : zTJ} (h : qm_settles 3 I J = qm_settles 3 I1 J) : zG0 I J = zG0 I1 J := by
  unfold zG0
  rw [t_qm_closes, h, ← t_qm_closes]
/-- a fact may begin with 'not' or a bracket -/
theorem zF0_not {I : zTI} {J : zTJ} {t q p : Nat} {B : Nat → Nat} {C : Nat → Int32} (T : zTxt t B C (I 1)) (e1 : I 0 1 = nI t) (e9 : I 0 9 = nI p) (hp : p ≤ t) (hz : zru (zbl B) t p = q) (hv : zww B t q = [110, 111, 116]) : zF0 I J = zkI (zkI (qm_opens 11 (zsI I 0 9 (nI q)) J) zSM (fun r15 I13 J14 => (if r15 = 0 then (some (some (.int 0), (zSM, I13, J14))) else (zkV (qm_passWord I13 J14) zSM (fun I16 J17 => (qm_fact_2 1 I16 J17)))))) zSM (fun r I J => if r = 0 then some (some (.int 0), (zSM, I, J)) else zG0 I J) := by
  have hq := zru_le (P := zbl B) (t := t) p hp
  rw [hz] at hq
  unfold zF0
  rw [t_qm_fact_2, if_neg z10, p_see T p I e9 e1 rfl hp, zkI_s, hz, p_wt (C := C) (X := 7237492) (l := [110, 111, 116]) hv (by rw [zsI_ne _ _ _ (by decide)]; exact T) (by rw [zsI_no _ _ _ (by decide)]; exact e1) (zsI_at _ _ _ _) hq (by rw [← hz, zru_id]) rfl (by decide) (by decide) (by decide), zkI_s, if_neg z10]
theorem zF0_bra {I : zTI} {J : zTJ} {t q p : Nat} {B : Nat → Nat} {C : Nat → Int32} (T : zTxt t B C (I 1)) (e1 : I 0 1 = nI t) (e9 : I 0 9 = nI p) (hp : p ≤ t) (hz : zru (zbl B) t p = q) (hv : zww B t q ≠ [110, 111, 116]) (hb : q < t ∧ B q = 91) : zF0 I J = zkI (zkI (qm_opens 91 (zsI I 0 9 (nI q)) J) zSM (fun r12 I10 J11 => (if r12 = 0 then (some (some (.int 0), (zSM, I10, J11))) else (qm_fact_2 1 (zsI I10 0 9 ((I10 0 9) + 1)) J11)))) zSM (fun r I J => if r = 0 then some (some (.int 0), (zSM, I, J)) else zG0 I J) := by
  have hq := zru_le (P := zbl B) (t := t) p hp
  rw [hz] at hq
  have hB : q < t → B q < 256 := fun h => (T.2 q h).1
  unfold zF0
  rw [t_qm_fact_2, if_neg z10, p_see T p I e9 e1 rfl hp, zkI_s, hz, p_wf (C := C) (X := 7237492) (l := [110, 111, 116]) hv (by rw [zsI_ne _ _ _ (by decide)]; exact T) (by rw [zsI_no _ _ _ (by decide)]; exact e1) (zsI_at _ _ _ _) hq (by rw [← hz, zru_id]) rfl (by decide) (by decide) (by decide), zkI_s, if_pos rfl, if_pos (show zby B t q = 91 from (zby_eq hB (s := 91) (by omega)).1.mpr hb)]
theorem zF0_cmp {I : zTI} {J : zTJ} {t q p : Nat} {B : Nat → Nat} {C : Nat → Int32} (T : zTxt t B C (I 1)) (e1 : I 0 1 = nI t) (e9 : I 0 9 = nI p) (hp : p ≤ t) (hz : zru (zbl B) t p = q) (hv : zww B t q ≠ [110, 111, 116]) (hb : ¬ (q < t ∧ B q = 91)) : zF0 I J = zkI (zkI (qm_compare (zsI I 0 9 (nI q)) J) zSM (fun r3 I1 J2 => (zif (zbo r3) (some (some (.int r3), (zSM, I1, J2)))))) zSM (fun r I J => if r = 0 then some (some (.int 0), (zSM, I, J)) else zG0 I J) := by
  have hq := zru_le (P := zbl B) (t := t) p hp
  rw [hz] at hq
  have hB : q < t → B q < 256 := fun h => (T.2 q h).1
  unfold zF0
  rw [t_qm_fact_2, if_neg z10, p_see T p I e9 e1 rfl hp, zkI_s, hz, p_wf (C := C) (X := 7237492) (l := [110, 111, 116]) hv (by rw [zsI_ne _ _ _ (by decide)]; exact T) (by rw [zsI_no _ _ _ (by decide)]; exact e1) (zsI_at _ _ _ _) hq (by rw [← hz, zru_id]) rfl (by decide) (by decide) (by decide), zkI_s, if_pos rfl, if_neg (show ¬ zby B t q = 91 from fun e => hb ((zby_eq hB (s := 91) (by omega)).1.mp e)), t_qm_fact_2, if_pos rfl]
