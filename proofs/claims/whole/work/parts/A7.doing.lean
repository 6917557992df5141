/-! ===== a rule: a clause, one kind after another: the class ===== -/
noncomputable def zTs (nc : Nat) (σ : zSg) (I : zTI) (J : zTJ) : Option zR := zkI (qu_readTest 33 0 σ I J) (zSC σ) (fun r I J => (if r = 0 then (some (some (.int 0), ((zSC σ), I, J))) else (some (some (.int 1), ((zSC σ), (zsI I 14 (5 * nc + 4) (I 11 6)), J)))))
noncomputable def zTl (nc : Nat) (σ : zSg) (I : zTI) (J : zTJ) : Option zR := zkI (qn_tookWord 11 3 σ I J) (zSC σ) (fun r I J => (if r = 0 then (some (some (.int 1), ((zSC σ), (zsI I 14 (5 * nc + 4) (I 11 6)), J))) else zTs nc σ I J))
noncomputable def zTsh (nc : Nat) (σ : zSg) (I : zTI) (J : zTJ) : Option zR := zkI (qn_tookWord 11 3 σ I J) (zSC σ) (fun r I J => (if r = 0 then (zkI (qn_wrong 11 (I 11 2) 0 σ I J) (zSC σ) (fun r I J => (zif (zbo r) (some (some (.int r), ((zSC σ), I, J)))))) else zTs nc σ I J))
theorem zak550 {σ : zSg} {I : zTI} {J : zTJ} : zask zG (zS zG) 36 55 [.ref 11, .int 0] ((zSC σ), I, J) = qu_readTest 33 0 σ I J := zak55 (k := 0) (d := 36) (by omega) (by omega)
theorem e01 : ((0 : Int32) = 1) = False := eq_false (by decide)
theorem e02 : ((0 : Int32) = 2) = False := eq_false (by decide)
theorem e10 : ((1 : Int32) = 0) = False := eq_false (by decide)
theorem e12 : ((1 : Int32) = 2) = False := eq_false (by decide)
theorem e20 : ((2 : Int32) = 0) = False := eq_false (by decide)
theorem e21 : ((2 : Int32) = 1) = False := eq_false (by decide)
/-- the words of a rule -/
def zwL : List (List Nat) := [[108, 101, 110, 100], [102, 101, 116, 99, 104], [115, 104, 105, 102, 116]]
theorem zwL_j : zSb.getD 1 [] = zjw (zwL.map (List.map nI)) := rfl
theorem zwL_b : ∀ l, l ∈ zwL → l ≠ [] ∧ ∀ a, a ∈ l → 33 ≤ a ∧ a < 256 := by decide
theorem zwL_c {v : List Nat} : (zix v zwL 0 = -1 ∧ v ≠ [108, 101, 110, 100] ∧ v ≠ [102, 101, 116, 99, 104] ∧ v ≠ [115, 104, 105, 102, 116]) ∨ (v = [108, 101, 110, 100] ∧ zix v zwL 0 = 0) ∨ (v = [102, 101, 116, 99, 104] ∧ zix v zwL 0 = 1) ∨ (v = [115, 104, 105, 102, 116] ∧ zix v zwL 0 = 2) := by
  by_cases h0 : v = [108, 101, 110, 100]
  · subst h0; exact Or.inr (Or.inl ⟨rfl, by decide⟩)
  by_cases h1 : v = [102, 101, 116, 99, 104]
  · subst h1; exact Or.inr (Or.inr (Or.inl ⟨rfl, by decide⟩))
  by_cases h2 : v = [115, 104, 105, 102, 116]
  · subst h2; exact Or.inr (Or.inr (Or.inr ⟨rfl, by decide⟩))
  · exact Or.inl ⟨by
      unfold zwL zix zix zix zix
      rw [if_neg h0, if_neg h1, if_neg h2], h0, h1, h2⟩
/-- where the class stands behind the first word -/
noncomputable def zW7 (B : Nat → Nat) (t q : Nat) (I : zTI) : zTI := zsI I 11 2 (nI (zru (zbl B) t (zru (zlr B) t q)))
set_option maxHeartbeats 16000000 in
theorem p_rcL {σ : zSg} {I : zTI} {J : zTJ} {t q nc : Nat} {B : Nat → Nat} {M : Nat → Int32} (T : zTxt t B (I 12) M) (e1 : I 11 1 = nI t) (e2 : I 11 2 = nI q) (hq : q ≤ t) (hv : zww B t q = [108, 101, 110, 100]) (e8 : I 11 8 = nI nc) (hn : nc < 12) : qu_readClause σ I J = zkI (qu_readSum σ (zsI (zsI (zsI (zW7 B t q I) 11 8 (nI (nc + 1))) 14 (5 * nc + 0) 0) 14 (5 * nc + 2) (I 11 6)) J) (zSC σ) (fun r I J => (if r = 0 then (some (some (.int 0), ((zSC σ), I, J))) else zTl nc σ (zsI (zsI I 14 (5 * nc + 1) 0) 14 (5 * nc + 3) (I 11 6)) J)) := by
  have hx : zix (zww B t q) zwL 0 = 0 := by rw [hv]; decide
  have m5 : nI nc * 5 = nI (5 * nc) := by rw [Nat.mul_comm]; exact (Int32.ofNat_mul nc 5).symm
  have m0 : nI (5 * nc) + 0 = nI (5 * nc + 0) := nI_add _ 0
  have m1 : nI (5 * nc) + 1 = nI (5 * nc + 1) := nI_add _ 1
  have m2 : nI (5 * nc) + 2 = nI (5 * nc + 2) := nI_add _ 2
  have m3 : nI (5 * nc) + 3 = nI (5 * nc + 3) := nI_add _ 3
  have m4 : nI (5 * nc) + 4 = nI (5 * nc + 4) := nI_add _ 4
  have g8 : zW7 B t q I 11 8 = nI nc := by unfold zW7; rw [zsI_no _ _ _ (by decide)]; exact e8
  have g6 : zW7 B t q I 11 6 = I 11 6 := by unfold zW7; rw [zsI_no _ _ _ (by decide)]
  have g3 : zW7 B t q I 11 3 = I 11 3 := by unfold zW7; rw [zsI_no _ _ _ (by decide)]
  have z0 : ∀ x : Option zR, zif (zin (nI (5 * nc + 0)) 60) x = x := fun x => zif_n (by omega) (by omega)
  have t0 : (nI (5 * nc + 0)).toNatClampNeg = 5 * nc + 0 := ztnn (by omega)
  have z1 : ∀ x : Option zR, zif (zin (nI (5 * nc + 1)) 60) x = x := fun x => zif_n (by omega) (by omega)
  have t1 : (nI (5 * nc + 1)).toNatClampNeg = 5 * nc + 1 := ztnn (by omega)
  have z2 : ∀ x : Option zR, zif (zin (nI (5 * nc + 2)) 60) x = x := fun x => zif_n (by omega) (by omega)
  have t2 : (nI (5 * nc + 2)).toNatClampNeg = 5 * nc + 2 := ztnn (by omega)
  have z3 : ∀ x : Option zR, zif (zin (nI (5 * nc + 3)) 60) x = x := fun x => zif_n (by omega) (by omega)
  have t3 : (nI (5 * nc + 3)).toNatClampNeg = 5 * nc + 3 := ztnn (by omega)
  have z4 : ∀ x : Option zR, zif (zin (nI (5 * nc + 4)) 60) x = x := fun x => zif_n (by omega) (by omega)
  have t4 : (nI (5 * nc + 4)).toNatClampNeg = 5 * nc + 4 := ztnn (by omega)
  rw [t_qu_readClause, p_am s11 zwL T e1 e2 hq (by decide) (by decide) (by decide) zwL_j zwL_b, zkI_s, hx, if_neg (show ¬ (0 : Int32) = -1 by decide), e8, if_pos (show nI nc < (12 : Int32) from nI_lt (b := 12) hn (by omega)), p_takeW s11 T e1 e2 hq, zkV_s, show zsI I 11 2 (nI (zru (zbl B) t (zru (zlr B) t q))) = zW7 B t q I from rfl]
  simp only [g8, g6, m5, m0, m1, m2, m3, m4, z0, z1, z2, z3, z4, t0, t1, t2, t3, t4, nI_1, eq_self, e01, e02, ↓reduceIte, zak550]
  rfl
set_option maxHeartbeats 16000000 in
theorem p_rcF {σ : zSg} {I : zTI} {J : zTJ} {t q nc : Nat} {B : Nat → Nat} {M : Nat → Int32} (T : zTxt t B (I 12) M) (e1 : I 11 1 = nI t) (e2 : I 11 2 = nI q) (hq : q ≤ t) (hv : zww B t q = [102, 101, 116, 99, 104]) (e8 : I 11 8 = nI nc) (hn : nc < 12) : qu_readClause σ I J = zTs nc σ (zsI (zsI (zsI (zsI (zsI (zW7 B t q I) 11 8 (nI (nc + 1))) 14 (5 * nc + 0) 1) 14 (5 * nc + 2) (I 11 6)) 14 (5 * nc + 1) 0) 14 (5 * nc + 3) (I 11 6)) J := by
  have hx : zix (zww B t q) zwL 0 = 1 := by rw [hv]; decide
  have m5 : nI nc * 5 = nI (5 * nc) := by rw [Nat.mul_comm]; exact (Int32.ofNat_mul nc 5).symm
  have m0 : nI (5 * nc) + 0 = nI (5 * nc + 0) := nI_add _ 0
  have m1 : nI (5 * nc) + 1 = nI (5 * nc + 1) := nI_add _ 1
  have m2 : nI (5 * nc) + 2 = nI (5 * nc + 2) := nI_add _ 2
  have m3 : nI (5 * nc) + 3 = nI (5 * nc + 3) := nI_add _ 3
  have m4 : nI (5 * nc) + 4 = nI (5 * nc + 4) := nI_add _ 4
  have g8 : zW7 B t q I 11 8 = nI nc := by unfold zW7; rw [zsI_no _ _ _ (by decide)]; exact e8
  have g6 : zW7 B t q I 11 6 = I 11 6 := by unfold zW7; rw [zsI_no _ _ _ (by decide)]
  have g3 : zW7 B t q I 11 3 = I 11 3 := by unfold zW7; rw [zsI_no _ _ _ (by decide)]
  have z0 : ∀ x : Option zR, zif (zin (nI (5 * nc + 0)) 60) x = x := fun x => zif_n (by omega) (by omega)
  have t0 : (nI (5 * nc + 0)).toNatClampNeg = 5 * nc + 0 := ztnn (by omega)
  have z1 : ∀ x : Option zR, zif (zin (nI (5 * nc + 1)) 60) x = x := fun x => zif_n (by omega) (by omega)
  have t1 : (nI (5 * nc + 1)).toNatClampNeg = 5 * nc + 1 := ztnn (by omega)
  have z2 : ∀ x : Option zR, zif (zin (nI (5 * nc + 2)) 60) x = x := fun x => zif_n (by omega) (by omega)
  have t2 : (nI (5 * nc + 2)).toNatClampNeg = 5 * nc + 2 := ztnn (by omega)
  have z3 : ∀ x : Option zR, zif (zin (nI (5 * nc + 3)) 60) x = x := fun x => zif_n (by omega) (by omega)
  have t3 : (nI (5 * nc + 3)).toNatClampNeg = 5 * nc + 3 := ztnn (by omega)
  have z4 : ∀ x : Option zR, zif (zin (nI (5 * nc + 4)) 60) x = x := fun x => zif_n (by omega) (by omega)
  have t4 : (nI (5 * nc + 4)).toNatClampNeg = 5 * nc + 4 := ztnn (by omega)
  rw [t_qu_readClause, p_am s11 zwL T e1 e2 hq (by decide) (by decide) (by decide) zwL_j zwL_b, zkI_s, hx, if_neg (show ¬ (1 : Int32) = -1 by decide), e8, if_pos (show nI nc < (12 : Int32) from nI_lt (b := 12) hn (by omega)), p_takeW s11 T e1 e2 hq, zkV_s, show zsI I 11 2 (nI (zru (zbl B) t (zru (zlr B) t q))) = zW7 B t q I from rfl]
  simp only [g8, g6, m5, m0, m1, m2, m3, m4, z0, z1, z2, z3, z4, t0, t1, t2, t3, t4, nI_1, eq_self, e10, e12, ↓reduceIte, zak550]
  rfl
set_option maxHeartbeats 16000000 in
theorem p_rcS {σ : zSg} {I : zTI} {J : zTJ} {t q nc : Nat} {B : Nat → Nat} {M : Nat → Int32} (T : zTxt t B (I 12) M) (e1 : I 11 1 = nI t) (e2 : I 11 2 = nI q) (hq : q ≤ t) (hv : zww B t q = [115, 104, 105, 102, 116]) (e8 : I 11 8 = nI nc) (hn : nc < 12) : qu_readClause σ I J = zkI (qn_readNumber 11 0 7 σ (zsI (zsI (zsI (zW7 B t q I) 11 8 (nI (nc + 1))) 14 (5 * nc + 0) 2) 14 (5 * nc + 2) (I 11 6)) J) (zSC σ) (fun r I J => (if r = 0 then (some (some (.int 0), ((zSC σ), I, J))) else zTsh nc σ (zsI (zsI I 14 (5 * nc + 1) (I 11 3)) 14 (5 * nc + 3) (I 11 6)) J)) := by
  have hx : zix (zww B t q) zwL 0 = 2 := by rw [hv]; decide
  have m5 : nI nc * 5 = nI (5 * nc) := by rw [Nat.mul_comm]; exact (Int32.ofNat_mul nc 5).symm
  have m0 : nI (5 * nc) + 0 = nI (5 * nc + 0) := nI_add _ 0
  have m1 : nI (5 * nc) + 1 = nI (5 * nc + 1) := nI_add _ 1
  have m2 : nI (5 * nc) + 2 = nI (5 * nc + 2) := nI_add _ 2
  have m3 : nI (5 * nc) + 3 = nI (5 * nc + 3) := nI_add _ 3
  have m4 : nI (5 * nc) + 4 = nI (5 * nc + 4) := nI_add _ 4
  have g8 : zW7 B t q I 11 8 = nI nc := by unfold zW7; rw [zsI_no _ _ _ (by decide)]; exact e8
  have g6 : zW7 B t q I 11 6 = I 11 6 := by unfold zW7; rw [zsI_no _ _ _ (by decide)]
  have g3 : zW7 B t q I 11 3 = I 11 3 := by unfold zW7; rw [zsI_no _ _ _ (by decide)]
  have z0 : ∀ x : Option zR, zif (zin (nI (5 * nc + 0)) 60) x = x := fun x => zif_n (by omega) (by omega)
  have t0 : (nI (5 * nc + 0)).toNatClampNeg = 5 * nc + 0 := ztnn (by omega)
  have z1 : ∀ x : Option zR, zif (zin (nI (5 * nc + 1)) 60) x = x := fun x => zif_n (by omega) (by omega)
  have t1 : (nI (5 * nc + 1)).toNatClampNeg = 5 * nc + 1 := ztnn (by omega)
  have z2 : ∀ x : Option zR, zif (zin (nI (5 * nc + 2)) 60) x = x := fun x => zif_n (by omega) (by omega)
  have t2 : (nI (5 * nc + 2)).toNatClampNeg = 5 * nc + 2 := ztnn (by omega)
  have z3 : ∀ x : Option zR, zif (zin (nI (5 * nc + 3)) 60) x = x := fun x => zif_n (by omega) (by omega)
  have t3 : (nI (5 * nc + 3)).toNatClampNeg = 5 * nc + 3 := ztnn (by omega)
  have z4 : ∀ x : Option zR, zif (zin (nI (5 * nc + 4)) 60) x = x := fun x => zif_n (by omega) (by omega)
  have t4 : (nI (5 * nc + 4)).toNatClampNeg = 5 * nc + 4 := ztnn (by omega)
  rw [t_qu_readClause, p_am s11 zwL T e1 e2 hq (by decide) (by decide) (by decide) zwL_j zwL_b, zkI_s, hx, if_neg (show ¬ (2 : Int32) = -1 by decide), e8, if_pos (show nI nc < (12 : Int32) from nI_lt (b := 12) hn (by omega)), p_takeW s11 T e1 e2 hq, zkV_s, show zsI I 11 2 (nI (zru (zbl B) t (zru (zlr B) t q))) = zW7 B t q I from rfl]
  simp only [g8, g6, m5, m0, m1, m2, m3, m4, z0, z1, z2, z3, z4, t0, t1, t2, t3, t4, nI_1, eq_self, e20, e21, ↓reduceIte, zak550]
  rfl
