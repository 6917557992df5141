/-! ===== a rule: a test ===== -/
noncomputable def zCt (d : Nat) (x1 x3 x4 : Int32) (σ : zSg) (I : zTI) (J : zTJ) : Option zR := (zkI (zask zG (zS zG) d 74 [.ref 11, .retAddr 5] ((zSC σ), I, J)) (zSC σ) (fun r22 I20 J21 => (if r22 = 0 then (if x3 = 0 then (if r22 = 0 then (zkI (zask zG (zS zG) d 74 [.ref 11, .retAddr 6] ((zSC σ), I20, J21)) (zSC σ) (fun r25 I23 J24 => (if r25 = 0 then (some (some (.int 1), ((zSC σ), I23, J24))) else (qu_readTest_7 d x1 r22 r25 (x4 + 1) σ I23 J24)))) else (qu_readTest_7 d x1 r22 x3 (x4 + 1) σ I20 J21)) else (zkV (zask zG (zS zG) d 53 [.ref 11, .int 200010] ((zSC σ), I20, J21)) (zSC σ) (fun I26 J27 => (if r22 = 0 then (zkI (zask zG (zS zG) d 74 [.ref 11, .retAddr 6] ((zSC σ), I26, J27)) (zSC σ) (fun r30 I28 J29 => (if r30 = 0 then (some (some (.int 1), ((zSC σ), I28, J29))) else (qu_readTest_7 d x1 r22 r30 (x4 + 1) σ I28 J29)))) else (qu_readTest_7 d x1 r22 x3 (x4 + 1) σ I26 J27))))) else (if r22 = 0 then (zkI (zask zG (zS zG) d 74 [.ref 11, .retAddr 6] ((zSC σ), I20, J21)) (zSC σ) (fun r33 I31 J32 => (if r33 = 0 then (some (some (.int 1), ((zSC σ), I31, J32))) else (qu_readTest_7 d x1 r22 r33 (x4 + 1) σ I31 J32)))) else (qu_readTest_7 d x1 r22 x3 (x4 + 1) σ I20 J21)))))
noncomputable def zC2 (d : Nat) (x1 x4 : Int32) (σ : zSg) (I : zTI) (J : zTJ) : Option zR := (zkI (qn_tookWord 11 6 σ I J) (zSC σ) (fun r25 I23 J24 => (if r25 = 0 then (some (some (.int 1), ((zSC σ), I23, J24))) else (qu_readTest_7 d x1 0 r25 (x4 + 1) σ I23 J24))))
theorem t_test7 (d : Nat) (x1 x2 x3 x4 : Int32) (σ : zSg) (I : zTI) (J : zTJ) : qu_readTest_7 d x1 x2 x3 x4 σ I J = (if (60 : Int32) < x4 then (some (some (.int 0), ((zSC σ), I, J))) else (zkI (zask zG (zS zG) d 56 [.ref 11, .int x1] ((zSC σ), I, J)) (zSC σ) (fun r3 I1 J2 => (if r3 = 0 then (some (some (.int 0), ((zSC σ), I1, J2))) else (if x2 = 0 then zCt d x1 x3 x4 σ I1 J2 else (zkV (zask zG (zS zG) d 53 [.ref 11, .int 200009] ((zSC σ), I1, J2)) (zSC σ) (fun I18 J19 => zCt d x1 x3 x4 σ I18 J19))))))) := t_qu_readTest_7 d x1 x2 x3 x4 σ I J
theorem zb1_0 {b : Bool} {α : Type} (x y : α) : (if zb1 b = 0 then x else y) = if b = true then y else x := by
  cases b
  · rfl
  · rfl
section ztest
variable {d t q : Nat} {B : Nat → Nat} {M : Nat → Int32} {x1 x3 x4 : Int32} {σ : zSg} {I : zTI} {J : zTJ}
theorem p_ctA (hd : 6 < d) (T : zTxt t B (I 12) M) (e1 : I 11 1 = nI t) (e2 : I 11 2 = nI q) (hq : q ≤ t) (hv : zww B t q = [97, 110, 100]) : zCt d x1 x3 x4 σ I J = qu_readTest_7 d x1 1 x3 (x4 + 1) σ (zsI I 11 2 (nI (zru (zbl B) t (zru (zlr B) t q)))) J := by
  unfold zCt
  rw [zak74 hd, p_tookW (l := [97, 110, 100]) T e1 e2 hq (by omega) (by decide) rfl (by decide) (by decide), if_pos hv, zkI_s, if_neg z10, if_neg z10]
theorem p_ctN (hd : 6 < d) (T : zTxt t B (I 12) M) (e1 : I 11 1 = nI t) (e2 : I 11 2 = nI q) (hq : q ≤ t) (hv : zww B t q ≠ [97, 110, 100]) : zCt d x1 x3 x4 σ I J = (if x3 = 0 then zC2 d x1 x4 σ I J else (zkV (qu_put 200010 σ I J) (zSC σ) (fun I1 J1 => zC2 d x1 x4 σ I1 J1))) := by
  unfold zCt zC2
  rw [zak74 hd, p_tookW (l := [97, 110, 100]) T e1 e2 hq (by omega) (by decide) rfl (by decide) (by decide), if_neg hv, zkI_s, if_pos rfl]
  simp only [eq_self, ite_true, zak74 hd, zak53 (show 0 < d by omega)]
theorem p_c2O (T : zTxt t B (I 12) M) (e1 : I 11 1 = nI t) (e2 : I 11 2 = nI q) (hq : q ≤ t) (hv : zww B t q = [111, 114]) : zC2 d x1 x4 σ I J = qu_readTest_7 d x1 0 1 (x4 + 1) σ (zsI I 11 2 (nI (zru (zbl B) t (zru (zlr B) t q)))) J := by
  unfold zC2
  rw [p_tookW (l := [111, 114]) T e1 e2 hq (by omega) (by decide) rfl (by decide) (by decide), if_pos hv, zkI_s, if_neg z10]
theorem p_c2N (T : zTxt t B (I 12) M) (e1 : I 11 1 = nI t) (e2 : I 11 2 = nI q) (hq : q ≤ t) (hv : zww B t q ≠ [111, 114]) : zC2 d x1 x4 σ I J = some (some (.int 1), (zSC σ, I, J)) := by
  unfold zC2
  rw [p_tookW (l := [111, 114]) T e1 e2 hq (by omega) (by decide) rfl (by decide) (by decide), if_neg hv, zkI_s, if_pos rfl]
end ztest
def zbl1 (b : Bool) (y : Nat) : List Nat := if b = true then [y] else []
/-- a pending joint of the class -/
theorem p_optC {L : List Nat} {y : Nat} {b : Bool} {σ : zSg} {I : zTI} {J : zTJ} {z : Int32} (hz : z = nI y) (C : zCk L I) (hL : L.length + (zbl1 b y).length ≤ 400) : ∃ I1, (∀ k : zTI → zTJ → Option zR, (if zb1 b = 0 then k I J else zkV (qu_put z σ I J) (zSC σ) k) = k I1 J) ∧ zCk (L ++ zbl1 b y) I1 ∧ zHc I I1 ∧ ∀ k, k ≠ 6 → I1 11 k = I 11 k := by
  subst hz
  cases b with
  | false => exact ⟨I, fun k => if_pos rfl, by show zCk (L ++ []) I; rw [List.append_nil]; exact C, zHc.rf, fun _ _ => rfl⟩
  | true =>
    obtain ⟨I1, h1, h2, h3, h4⟩ := p_putC (σ := σ) (J := J) (x := y) C (show L.length < 400 from by have : (zbl1 true y).length = 1 := rfl; omega)
    exact ⟨I1, fun k => by rw [if_neg (show ¬ zb1 true = 0 by decide), h1, zkV_s], h2, h3, h4⟩
theorem zqlst {A Q1 : List Nat} {a x : Nat} (h : A ++ [a] = Q1 ++ [x]) : x = a := by
  have := (List.append_inj' h rfl).2
  exact (List.cons.inj this).1.symm
theorem zbs {Q0 : List Nat} (h : Q0 = [] ∨ ∃ Q, Q0 = Q ++ [91]) : ∀ Q1 x, Q0 = Q1 ++ [x] → x = 91 := fun Q1 x e => by
  rcases h with rfl | ⟨Q, rfl⟩
  · exact absurd e.symm (by simp)
  · exact zqlst e
theorem zbs_fl {Q0 : List Nat} {fo fa : Bool} (h : Q0 = [] ∨ ∃ Q, Q0 = Q ++ [91]) : ∀ Q1 x, Q0 ++ zqfl fo fa = Q1 ++ [x] → (fa = true ∧ x = 12) ∨ (fa = false ∧ fo = true ∧ x = 13) ∨ (fa = false ∧ fo = false ∧ x = 91) := fun Q1 x e => by
  cases fa
  · cases fo
    · rw [show zqfl false false = [] from rfl, List.append_nil] at e
      exact Or.inr (Or.inr ⟨rfl, rfl, zbs h Q1 x e⟩)
    · exact Or.inr (Or.inl ⟨rfl, rfl, zqlst (A := Q0) (a := 13) e⟩)
  · cases fo
    · exact Or.inl ⟨rfl, zqlst (A := Q0) (a := 12) e⟩
    · exact Or.inl ⟨rfl, zqlst (A := Q0 ++ [13]) (a := 12) (by rw [List.append_assoc]; exact e)⟩
/-- what settling leaves as it is -/
def zSe (tt : Nat) (I I1 : zTI) : Prop := zHt tt I I1 ∧ I1 7 = I 7 ∧ ∀ j, j ≠ 17 → I1 0 j = I 0 j
theorem p_settA {tt k : Nat} {L Q0 : List Nat} {fo fa : Bool} {I : zTI} {J : zTJ} (htt : tt < 6) (hb : Q0 = [] ∨ ∃ Q, Q0 = Q ++ [91]) (C : zCn tt L I) (K : zSk (Q0 ++ zqfl fo fa) I) (e14 : I 0 14 = nI k) (hL : L.length + (Q0 ++ zqfl fo fa).length ≤ 400) : ∃ I1, qm_settles 2 I J = some (none, (zSM, I1, J)) ∧ zCn tt (L ++ zbl1 fa 200009) I1 ∧ zSk (Q0 ++ zqfl fo false) I1 ∧ zSe tt I I1 := by
  rw [List.length_append] at hL
  cases fa with
  | false =>
    refine ⟨I, p_set0 (y := 2) (s := 2) rfl (by omega) K (by rw [List.length_append]; omega) (fun Q1 x e => ?_), by show zCn tt (L ++ []) I; rw [List.append_nil]; exact C, K, zHt.rf, rfl, fun _ _ => rfl⟩
    rcases zbs_fl hb Q1 x e with ⟨h, -⟩ | ⟨-, -, rfl⟩ | ⟨-, -, rfl⟩
    · cases h
    · exact ⟨by decide, by omega⟩
    · exact ⟨by decide, by omega⟩
  | true =>
    have e : Q0 ++ zqfl fo true = Q0 ++ zqfl fo false ++ [12] := by
      rw [List.append_assoc]
      cases fo <;> rfl
    have hl : (zqfl fo true).length = (zqfl fo false).length + 1 := by cases fo <;> rfl
    rw [e] at K
    obtain ⟨I1, h1, h2, h3, h4, h5, h6, h7⟩ := p_set1 (J := J) (y := 200009) (s := 2) (z := 2) rfl htt C K e14 (show 2 ≤ zsr 12 by decide) (by omega) (by omega) (by rw [List.length_append]; omega) (by decide) (fun h => by omega)
    refine ⟨I1, ?_, h2, h3, h5, h6, fun j hj => ?_⟩
    · rw [h1]
      refine p_set0 (y := 2) (s := 2) rfl (by omega) h3 (by rw [List.length_append]; omega) (fun Q1 x e => ?_)
      rcases zbs_fl hb Q1 x e with ⟨h, -⟩ | ⟨-, -, rfl⟩ | ⟨-, -, rfl⟩
      · cases h
      · exact ⟨by decide, by omega⟩
      · exact ⟨by decide, by omega⟩
    · by_cases q : j = 14
      · subst q
        rw [h4, if_neg (by omega), e14]
      · exact h7 j q hj
theorem p_settO {tt k : Nat} {L Q0 : List Nat} {fo fa : Bool} {I : zTI} {J : zTJ} (htt : tt < 6) (hb : Q0 = [] ∨ ∃ Q, Q0 = Q ++ [91]) (C : zCn tt L I) (K : zSk (Q0 ++ zqfl fo fa) I) (e14 : I 0 14 = nI k) (hL : L.length + (Q0 ++ zqfl fo fa).length ≤ 400) : ∃ I1, qm_settles 1 I J = some (none, (zSM, I1, J)) ∧ zCn tt (L ++ zbl1 fa 200009 ++ zbl1 fo 200010) I1 ∧ zSk Q0 I1 ∧ zSe tt I I1 := by
  rw [List.length_append] at hL
  have A : ∃ I1, qm_settles 1 I J = qm_settles 1 I1 J ∧ zCn tt (L ++ zbl1 fa 200009) I1 ∧ zSk (Q0 ++ zqfl fo false) I1 ∧ zSe tt I I1 := by
    cases fa with
    | false => exact ⟨I, rfl, by show zCn tt (L ++ []) I; rw [List.append_nil]; exact C, K, zHt.rf, rfl, fun _ _ => rfl⟩
    | true =>
      have e : Q0 ++ zqfl fo true = Q0 ++ zqfl fo false ++ [12] := by
        rw [List.append_assoc]
        cases fo <;> rfl
      have hl : (zqfl fo true).length = (zqfl fo false).length + 1 := by cases fo <;> rfl
      rw [e] at K
      obtain ⟨I1, h1, h2, h3, h4, h5, h6, h7⟩ := p_set1 (J := J) (y := 200009) (s := 1) (z := 1) rfl htt C K e14 (show 1 ≤ zsr 12 by decide) (by omega) (by omega) (by rw [List.length_append]; omega) (by decide) (fun h => by omega)
      refine ⟨I1, h1, h2, h3, h5, h6, fun j hj => ?_⟩
      by_cases q : j = 14
      · subst q
        rw [h4, if_neg (by omega), e14]
      · exact h7 j q hj
  obtain ⟨I1, h1, h2, h3, h4, h5, h6⟩ := A
  have hl1 : (L ++ zbl1 fa 200009).length + (zqfl fo false).length + Q0.length ≤ 400 := by
    rw [List.length_append]
    have : (zbl1 fa 200009).length + (zqfl fo false).length = (zqfl fo fa).length := by cases fa <;> cases fo <;> rfl
    omega
  rw [h1]
  cases fo with
  | false =>
    have h3' : zSk Q0 I1 := by
      have : Q0 ++ zqfl false false = Q0 := List.append_nil Q0
      rw [this] at h3
      exact h3
    refine ⟨I1, p_set0 (y := 1) (s := 1) rfl (by omega) h3' (by omega) (fun Q1 x e => ?_), by show zCn tt (L ++ zbl1 fa 200009 ++ []) I1; rw [List.append_nil]; exact h2, h3', h4, h5, h6⟩
    rw [zbs hb Q1 x e]
    exact ⟨by decide, by omega⟩
  | true =>
    have hl2 : (zqfl true false).length = 1 := rfl
    obtain ⟨I2, g1, g2, g3, g4, g5, g6, g7⟩ := p_set1 (J := J) (y := 200010) (s := 1) (z := 1) (Q := Q0) (x := 13) rfl htt h2 h3 (by rw [h6 14 (by decide)]; exact e14) (show 1 ≤ zsr 13 by decide) (by omega) (by omega) (by omega) (by decide) (fun h => by omega)
    refine ⟨I2, ?_, g2, g3, h4.tr g5, g6.trans h5, fun j hj => ?_⟩
    · rw [g1]
      refine p_set0 (y := 1) (s := 1) rfl (by omega) g3 (by omega) (fun Q1 x e => ?_)
      rw [zbs hb Q1 x e]
      exact ⟨by decide, by omega⟩
    · by_cases q : j = 14
      · subst q
        rw [g4, if_neg (by omega), e14]
      · rw [g7 j q hj]
        exact h6 j hj
theorem znv_j : ∀ M : List Nat, (∀ x, x ∈ M → 200000 ≤ x ∧ x ≤ 200011) → znv M = 0
  | [], _ => rfl
  | x :: M, h => by
    show (if x < 200000 then 1 else 0) + znv M = 0
    rw [znv_j M (fun y hy => h y (List.mem_cons_of_mem _ hy)), if_neg (by have := h x List.mem_cons_self; omega)]
theorem zRd_mk {t : Nat} {B : Nat → Nat} {tt p m e : Nat} {L M : List Nat} {I I' I1 I1' : zTI} (H : zRd t B tt p L m I I') (he : e ≤ t) (h1 : I1 11 1 = I 11 1) (h2 : I1 11 2 = nI (zru (zbl B) t e)) (h9 : I1 11 9 = I 11 9) (h4 : I1 11 4 = I 11 4) (h12 : I1 12 = I 12) (g1 : I1' 1 = I' 1) (g9 : I1' 0 9 = nI e) (g0 : ∀ j, j = 1 ∨ j = 10 ∨ j = 13 → I1' 0 j = I' 0 j) (hM : ∀ x, x ∈ M → 200000 ≤ x ∧ x ≤ 200011) (ck : zCk (L ++ M) I1) (cn : zCn tt (L ++ M) I1') : zRd t B tt e (L ++ M) m I1 I1' := by
  obtain ⟨⟨a1, a2, b1, b2, hp, T, b10⟩, C, e9, e13, hm, hv⟩ := H
  refine ⟨⟨by rw [h1]; exact a1, h2, by rw [g0 1 (by omega)]; exact b1, g9, he, by rw [h12, g1]; exact T, by rw [g0 10 (by omega)]; exact b10⟩, zCo_i.mpr ⟨ck, cn, fun x hx => ?_⟩, by rw [h9]; exact e9, by rw [g0 13 (by omega)]; exact e13, hm, by rw [znv_app, znv_j M hM]; exact hv.1, by rw [h4]; exact hv.2⟩
  rcases List.mem_append.mp hx with h | h
  · exact C.2.2.2.2 x h
  · exact Or.inr (hM x h)
theorem zbl1_m {b : Bool} {y x : Nat} (h : x ∈ zbl1 b y) : x = y := by
  cases b
  · cases h
  · exact List.mem_singleton.mp h
theorem zty_and {ty : List Bool} {b : Bool} {fo : Bool} : zty (zbl1 b 200009) (true :: zqft fo b ty) = some (true :: zqft fo false ty) := by
  cases b
  · cases fo <;> rfl
  · cases fo <;> simp [zbl1, zqft, zty]
theorem zty_or {ty : List Bool} {fo : Bool} : zty (zbl1 fo 200010) (true :: zqft fo false ty) = some (true :: ty) := by
  cases fo
  · rfl
  · simp [zbl1, zqft, zty]
