/-! ===== a rule: the class's calls; a fact ===== -/
section zcalls
variable {d : Nat} {σ : zSg} {I : zTI} {J : zTJ}
theorem zak72 {x : Nat} (h : 5 < d) : zask zG (zS zG) d 72 [.ref 11, .retAddr x] (zSC σ, I, J) = qn_wordAmong 11 x σ I J := (zask_t (show zht (zG 72) [.ref 11, .retAddr x] < d from h) (show 2 ≤ 7 by omega)).trans rfl
theorem zak74 {x : Nat} (h : 6 < d) : zask zG (zS zG) d 74 [.ref 11, .retAddr x] (zSC σ, I, J) = qn_tookWord 11 x σ I J := (zask_t (show zht (zG 74) [.ref 11, .retAddr x] < d from h) (show 2 ≤ 2 by omega)).trans rfl
theorem zak64 (h : 0 < d) : zask zG (zS zG) d 64 [.ref 11] (zSC σ, I, J) = qn_sign 11 σ I J := (zask_t (show zht (zG 64) [.ref 11] < d from h) (show 1 ≤ 1 by omega)).trans rfl
theorem zak73 (h : 1 < d) : zask zG (zS zG) d 73 [.ref 11] (zSC σ, I, J) = qn_takeWord 11 σ I J := (zask_t (show zht (zG 73) [.ref 11] < d from h) (show 1 ≤ 1 by omega)).trans rfl
theorem zak68 (h : 1 < d) : zask zG (zS zG) d 68 [.ref 11] (zSC σ, I, J) = qn_takeSign 11 σ I J := (zask_t (show zht (zG 68) [.ref 11] < d from h) (show 1 ≤ 1 by omega)).trans rfl
theorem zak69 {x : Int32} (h : 2 < d) : zask zG (zS zG) d 69 [.ref 11, .int x] (zSC σ, I, J) = qn_tookSign 11 x σ I J := (zask_t (show zht (zG 69) [.ref 11, .int x] < d from h) (show 2 ≤ 2 by omega)).trans rfl
theorem zak62 {x y : Int32} (h : 0 < d) : zask zG (zS zG) d 62 [.ref 11, .int x, .int y] (zSC σ, I, J) = qn_wrong 11 x y σ I J := (zask_t (show zht (zG 62) [.ref 11, .int x, .int y] < d from h) (show 3 ≤ 3 by omega)).trans rfl
theorem zak53 {x : Int32} (h : 0 < d) : zask zG (zS zG) d 53 [.ref 11, .int x] (zSC σ, I, J) = qu_put x σ I J := (zask_t (show zht (zG 53) [.ref 11, .int x] < d from h) (show 2 ≤ 2 by omega)).trans rfl
theorem zak54 {x : Int32} (h : 1 < d) : zask zG (zS zG) d 54 [.ref 11, .int x] (zSC σ, I, J) = qu_countPart x σ I J := (zask_t (show zht (zG 54) [.ref 11, .int x] < d from h) (show 2 ≤ 2 by omega)).trans rfl
theorem zak57 (h : 1 < d) : zask zG (zS zG) d 57 [.ref 11] (zSC σ, I, J) = qu_takeComparison σ I J := (zask_t (show zht (zG 57) [.ref 11] < d from h) (show 1 ≤ 3 by omega)).trans rfl
theorem zak58 (h : 7 < d) : zask zG (zS zG) d 58 [.ref 11] (zSC σ, I, J) = qu_readSum σ I J := (zask_t (show zht (zG 58) [.ref 11] < d from h) (show 1 ≤ 7 by omega)).trans rfl
theorem zak56 {k : Nat} (hk : k < 100) (h : 8 + 2 * (12 - k) < d) : zask zG (zS zG) d 56 [.ref 11, .int (nI k)] (zSC σ, I, J) = qu_readFact (8 + 2 * (12 - k)) (nI k) σ I J := by
  have e : zht (zG 56) [.ref 11, .int (nI k)] = 8 + 2 * (12 - k) := by
    show 8 + 2 * (12 - (nI k).toNatClampNeg) = _
    rw [ztnn (by omega)]
  have h1 : zht (zG 56) [.ref 11, .int (nI k)] < d := by rw [e]; exact h
  exact (zask_t h1 (show 2 ≤ 6 by omega)).trans (by rw [e]; rfl)
theorem zak55 {k : Nat} (hk : k < 100) (h : 9 + 2 * (12 - k) < d) : zask zG (zS zG) d 55 [.ref 11, .int (nI k)] (zSC σ, I, J) = qu_readTest (9 + 2 * (12 - k)) (nI k) σ I J := by
  have e : zht (zG 55) [.ref 11, .int (nI k)] = 9 + 2 * (12 - k) := by
    show 9 + 2 * (12 - (nI k).toNatClampNeg) = _
    rw [ztnn (by omega)]
  have h1 : zht (zG 55) [.ref 11, .int (nI k)] < d := by rw [e]; exact h
  exact (zask_t h1 (show 2 ≤ 5 by omega)).trans (by rw [e]; rfl)
end zcalls
theorem zww_lt {B : Nat → Nat} {t q : Nat} (h : zww B t q ≠ []) : q < zru (zlr B) t q := by
  have := zru_ge (P := zlr B) (t := t) q
  rcases Nat.lt_or_ge q (zru (zlr B) t q) with h1 | h1
  · exact h1
  · exact absurd (by unfold zww; rw [show zru (zlr B) t q - q = 0 by omega]; rfl) h
theorem zww_0 {B : Nat → Nat} {t q a : Nat} {l : List Nat} (hq : q ≤ t) (h : zww B t q = a :: l) : q < t ∧ B q = a := by
  have h1 := zww_lt (B := B) (t := t) (q := q) (by rw [h]; simp)
  have h2 := zru_le (P := zlr B) (t := t) q hq
  unfold zww at h
  rw [show zru (zlr B) t q - q = (zru (zlr B) t q - q - 1) + 1 by omega] at h
  exact ⟨by omega, (List.cons.inj h).1⟩
/-- one word -/
theorem p_am1 {σ : zSg} {I : zTI} {J : zTJ} {t q x1 : Nat} {B : Nat → Nat} {M : Nat → Int32} {l : List Nat} (T : zTxt t B (I 12) M) (e1 : I 11 1 = nI t) (e2 : I 11 2 = nI q) (hq : q ≤ t) (hx : x1 < 7) (hL : (zSb.getD x1 []).length < 1000) (hj : zSb.getD x1 [] = l.map nI) (hl : l ≠ []) (hb : ∀ a, a ∈ l → 33 ≤ a ∧ a < 256) : qn_wordAmong 11 x1 σ I J = some (some (.int (if zww B t q = l then 0 else -1)), (zSC σ, I, J)) := by
  rw [p_am s11 [l] T e1 e2 hq hx hL (by simp) (by rw [hj]; rfl) (fun m hm => by
    rw [List.mem_singleton.mp hm]
    exact ⟨hl, hb⟩)]
  rfl
theorem p_tookW {σ : zSg} {I : zTI} {J : zTJ} {t q x1 : Nat} {B : Nat → Nat} {M : Nat → Int32} {l : List Nat} (T : zTxt t B (I 12) M) (e1 : I 11 1 = nI t) (e2 : I 11 2 = nI q) (hq : q ≤ t) (hx : x1 < 7) (hL : (zSb.getD x1 []).length < 1000) (hj : zSb.getD x1 [] = l.map nI) (hl : l ≠ []) (hb : ∀ a, a ∈ l → 33 ≤ a ∧ a < 256) : qn_tookWord 11 x1 σ I J = if zww B t q = l then some (some (.int 1), (zSC σ, zsI I 11 2 (nI (zru (zbl B) t (zru (zlr B) t q))), J)) else some (some (.int 0), (zSC σ, I, J)) := by
  rw [t_qn_tookWord 11 _ 12 s11, p_am1 T e1 e2 hq hx hL hj hl hb, zkI_s]
  by_cases h : zww B t q = l
  · rw [if_pos h, if_pos h, if_pos rfl, p_takeW s11 T e1 e2 hq, zkV_s]
  · rw [if_neg h, if_neg h, if_neg (by decide)]
/-- a fact at depth k, in both -/
def zFo (σ : zSg) (J J' : zTJ) (t : Nat) (B : Nat → Nat) (tt k : Nat) : Prop := ∀ (Q : List Nat) (p m : Nat) (L : List Nat) (I I' : zTI), zRd t B tt p L m I I' → zSk Q I' → (∀ x, x ∈ Q → x < 1000) → I' 0 14 = nI k → L.length + Q.length ≤ p → ∃ r I1, qu_readFact (8 + 2 * (12 - k)) (nI k) σ I J = some (some (.int r), (zSC σ, I1, J)) ∧ zHc I I1 ∧ ((r = 0 ∧ ∃ I1', zF0 I' J' = some (some (.int 0), (zSM, I1', J')) ∧ zHt tt I' I1' ∧ zBad 11 I1 I1') ∨ (r = 1 ∧ ∃ I1' p1 m1 L1, zF0 I' J' = zG0 I1' J' ∧ zHt tt I' I1' ∧ zRd t B tt p1 (L ++ L1) m1 I1 I1' ∧ zSk Q I1' ∧ I1' 0 14 = nI k ∧ p < p1 ∧ m < m1 ∧ L1.length + p ≤ p1 ∧ ∀ ty, zty L1 ty = some (true :: ty)))
def zb1 (b : Bool) : Int32 := if b = true then 1 else 0
def zqfl (fo fa : Bool) : List Nat := (if fo = true then [13] else []) ++ (if fa = true then [12] else [])
def zqft (fo fa : Bool) (ty : List Bool) : List Bool := (if fa = true then [true] else []) ++ ((if fo = true then [true] else []) ++ ty)
/-- a test at depth k, in both -/
def zTo (σ : zSg) (J J' : zTJ) (t : Nat) (B : Nat → Nat) (tt k : Nat) : Prop := ∀ (fo fa : Bool) (Q0 : List Nat) (v p m : Nat) (L : List Nat) (I I' : zTI), zRd t B tt p L m I I' → zSk (Q0 ++ zqfl fo fa) I' → (∀ x, x ∈ Q0 → x < 1000) → (Q0 = [] ∨ (1 ≤ k ∧ ∃ Q, Q0 = Q ++ [91])) → I' 0 14 = nI k → L.length + (Q0 ++ zqfl fo fa).length ≤ p → v ≤ m → ∃ r I1, qu_readTest_7 (9 + 2 * (12 - k)) (nI k) (zb1 fa) (zb1 fo) (nI v) σ I J = some (some (.int r), (zSC σ, I1, J)) ∧ zHc I I1 ∧ ((r = 0 ∧ ∃ I1', zF0 I' J' = some (some (.int 0), (zSM, I1', J')) ∧ zHt tt I' I1' ∧ zBad 11 I1 I1') ∨ (r = 1 ∧ ∃ q m1 L1, zTxt t B (I1 12) (I' 1) ∧ I1 11 1 = nI t ∧ I1 11 2 = nI q ∧ q ≤ t ∧ p < q ∧ m < m1 ∧ L1.length + p ≤ (zqfl fo fa).length + q ∧ (∀ ty, zty L1 (zqft fo fa ty) = some (true :: ty)) ∧ (Q0 = [] → ∃ I1', zF0 I' J' = some (some (.int 1), (zSM, I1', J')) ∧ zHt tt I' I1' ∧ zRd t B tt q (L ++ L1) m1 I1 I1') ∧ ∀ Q, Q0 = Q ++ [91] → ((q < t ∧ B q = 93 → ∃ I1', zF0 I' J' = zG0 I1' J' ∧ zHt tt I' I1' ∧ zRd t B tt (q + 1) (L ++ L1) m1 (zsI I1 11 2 (nI (zru (zbl B) t (q + 1)))) I1' ∧ zSk Q I1' ∧ I1' 0 14 = nI (k - 1)) ∧ (¬ (q < t ∧ B q = 93) → ∃ I1', zF0 I' J' = some (some (.int 0), (zSM, I1', J')) ∧ zHt tt I' I1' ∧ I1' 0 10 = nI (1 + 8 * q + 0)))))
theorem zSk_s {Q : List Nat} {I : zTI} {x : Nat} {I1 : zTI} (K : zSk Q I) (h7 : I1 7 = upd (I 7) Q.length (nI x)) (h17 : I1 0 17 = nI (Q.length + 1)) : zSk (Q ++ [x]) I1 := by
  refine ⟨by rw [h17, List.length_append]; rfl, fun i hi => ?_⟩
  rw [List.length_append, List.length_singleton] at hi
  rw [h7]
  by_cases q : i = Q.length
  · subst q
    rw [u_at, zat_e]
  · rw [u_no q, zat_l (by omega)]
    exact K.2 i (by omega)
/-- a sign is opened -/
theorem p_opn1 {Q : List Nat} {I : zTI} {J : zTJ} {x k : Nat} {y : Int32} (hy : y = nI x) (K : zSk Q I) (e14 : I 0 14 = nI k) (hk : k < 10) (hQ : Q.length < 400) : ∃ I1, qm_opens y I J = some (some (.int 1), (zSM, I1, J)) ∧ zSk (Q ++ [x]) I1 ∧ I1 0 14 = nI (k + 1) ∧ (∀ i, i ≠ 0 → i ≠ 7 → I1 i = I i) ∧ ∀ j, j ≠ 14 → j ≠ 17 → I1 0 j = I 0 j := by
  subst hy
  refine ⟨zsI (zsI (zsI I 0 14 (nI (k + 1))) 7 Q.length (nI x)) 0 17 (nI (Q.length + 1)), ?_, zSk_s K ?_ (zsI_at _ _ _ _), ?_, fun i a b => ?_, fun j a b => ?_⟩
  · rw [t_qm_opens, e14, if_neg (show ¬ nI k = (10 : Int32) from fun h => by have := znI (b := 10) (by omega) (by omega) h; omega), K.1, zif_n (by omega) (by omega), ztnn (by omega), nI_1, nI_1]
  · rw [zsI_ne _ _ _ (by decide), zsI_row, zsI_ne _ _ _ (by decide)]
  · rw [zsI_no _ _ _ (by decide), zsI_ne _ _ _ (by decide), zsI_at]
  · rw [zsI_ne _ _ _ a, zsI_ne _ _ _ b, zsI_ne _ _ _ a]
  · rw [zsI_no _ _ _ b, zsI_ne _ _ _ (by decide), zsI_no _ _ _ a]
theorem p_opn0 {I : zTI} {J : zTJ} {q : Nat} {y : Int32} (e14 : I 0 14 = nI 10) (e9 : I 0 9 = nI q) (e10 : I 0 10 = 0) : qm_opens y I J = some (some (.int 0), (zSM, zsI I 0 10 (1 + 8 * nI q + 2), J)) := by
  rw [t_qm_opens, e14, if_pos (show nI 10 = (10 : Int32) from rfl), e9, p_failM e10]
theorem zRd_h {t : Nat} {B : Nat → Nat} {tt p m : Nat} {L : List Nat} {I I' I1' : zTI} (H : zRd t B tt p L m I I') (g : ∀ i, i ≠ 0 → i ≠ 7 → I1' i = I' i) (g0 : ∀ j, j ≠ 14 → j ≠ 17 → I1' 0 j = I' 0 j) : zRd t B tt p L m I I1' := by
  obtain ⟨X, C, e9, e13, hm, hv⟩ := H
  exact ⟨zLx_f X (fun _ _ => rfl) rfl (fun k hk => g0 k (by omega) (by omega)) (g 1 (by decide) (by decide)), zCo_c C rfl rfl (g0 12 (by decide) (by decide)) (g 2 (by decide) (by decide)) (g 3 (by decide) (by decide)), e9, by rw [g0 13 (by decide) (by decide)]; exact e13, hm, hv⟩
/-- a word is passed -/
theorem zRd_w {t : Nat} {B : Nat → Nat} {tt p m q : Nat} {L : List Nat} {I I' : zTI} (H : zRd t B tt p L m I I') (hq : q ≤ t) : zRd t B tt q L m (zsI I 11 2 (nI (zru (zbl B) t q))) (zsI I' 0 9 (nI q)) := by
  obtain ⟨⟨a1, a2, b1, b2, hp, T, b10⟩, C, e9, e13, hm, hv⟩ := H
  exact ⟨⟨by rw [zsI_no _ _ _ (by decide)]; exact a1, zsI_at _ _ _ _, by rw [zsI_no _ _ _ (by decide)]; exact b1, zsI_at _ _ _ _, hq, by rw [zsI_ne _ _ _ (by decide), zsI_ne _ _ _ (by decide)]; exact T, by rw [zsI_no _ _ _ (by decide)]; exact b10⟩, zCo_c C (zsI_no _ _ _ (by decide)) (zsI_ne _ _ _ (by decide)) (zsI_no _ _ _ (by decide)) (zsI_ne _ _ _ (by decide)) (zsI_ne _ _ _ (by decide)), by rw [zsI_no _ _ _ (by decide)]; exact e9, by rw [zsI_no _ _ _ (by decide)]; exact e13, hm, hv.1, by rw [zsI_no _ _ _ (by decide)]; exact hv.2⟩
set_option maxHeartbeats 16000000 in
theorem p_fact {σ : zSg} {J J' : zTJ} {t : Nat} {B : Nat → Nat} {tt k : Nat} (htt : tt < 6) (hk : k ≤ 10) (ihF : k < 10 → zFo σ J J' t B tt (k + 1)) (ihT : k < 10 → zTo σ J J' t B tt (k + 1)) : zFo σ J J' t B tt k := by
  intro Q p m L I I' H K hQ e14 hL
  obtain ⟨⟨a1, a2, b1, b2, hp, T, b10⟩, C, e9, e13, hm, hv⟩ := id H
  have hq := zru_le (P := zbl B) (t := t) p hp
  have hpq := zru_ge (P := zbl B) (t := t) p
  have ht := T.1
  have Hq := zRd_q H
  have Kq : zSk Q (zsI I' 0 9 (nI (zru (zbl B) t p))) := zSk_c K (zsI_no _ _ _ (by decide)) (zsI_ne _ _ _ (by decide))
  have e14q : zsI I' 0 9 (nI (zru (zbl B) t p)) 0 14 = nI k := by rw [zsI_no _ _ _ (by decide)]; exact e14
  have gq : zHt tt I' (zsI I' 0 9 (nI (zru (zbl B) t p))) := zHt.s (by omega)
  have hkx : nI k + 1 = nI (k + 1) := nI_1 k
  rw [t_qu_readFact, zak72 (by omega), p_am1 (l := [110, 111, 116]) T a1 a2 hq (by omega) (by decide) rfl (by decide) (by decide), zkI_s]
  by_cases hv : zww B t (zru (zbl B) t p) = [110, 111, 116]
  · have hlt := zww_lt (B := B) (t := t) (q := zru (zbl B) t p) (by rw [hv]; simp)
    have hle := zru_le (P := zlr B) (t := t) (zru (zbl B) t p) hq
    rw [if_pos hv, if_pos rfl, zak64 (by omega), p_sign s11 T a1 a2 hq, zkI_s]
    have hsame : ∀ (c : Prop) [Decidable c] (a : Option zR), (if c then a else a) = a := fun c _ a => by split <;> rfl
    rw [hsame, zF0_not T b1 b2 hp rfl hv]
    by_cases hk10 : k < 10
    · rw [if_pos (show nI k < (10 : Int32) from nI_lt (b := 10) hk10 (by omega)), zak73 (by omega), p_takeW s11 T a1 a2 hq, zkV_s, hkx, zak56 (by omega) (by omega)]
      obtain ⟨K1, u1, u2, u3, u4, u5⟩ := p_opn1 (J := J') (x := 11) (y := 11) rfl Kq e14q hk10 (by omega)
      have HK := zRd_h Hq u4 u5
      have hpass : qm_passWord K1 J' = some (none, (zSM, zsI K1 0 9 (nI (zru (zlr B) t (zru (zbl B) t p))), J')) := p_pass HK.1.2.2.2.2.2.1 _ K1 HK.1.2.2.2.1 HK.1.2.2.1 rfl hq
      rw [u1, zkI_s, if_neg z10, hpass, zkV_s]
      have HW := zRd_w HK hle
      obtain ⟨r, I2, f1, f2, f3⟩ := ihF hk10 (Q ++ [11]) _ m L _ _ HW (zSk_c u2 (zsI_no _ _ _ (by decide)) (zsI_ne _ _ _ (by decide))) (fun x hx => by
        rcases List.mem_append.mp hx with h | h
        · exact hQ x h
        · rw [List.mem_singleton.mp h]; omega) (by rw [zsI_no _ _ _ (by decide)]; exact u3) (by rw [List.length_append, List.length_singleton]; omega)
      rw [show zkI (qm_fact_2 1 (zsI K1 0 9 (nI (zru (zlr B) t (zru (zbl B) t p)))) J') zSM (fun r I J => if r = 0 then some (some (.int 0), (zSM, I, J)) else zG0 I J) = zF0 (zsI K1 0 9 (nI (zru (zlr B) t (zru (zbl B) t p)))) J' from rfl, f1, zkI_s]
      have gt : zHt tt I' (zsI K1 0 9 (nI (zru (zlr B) t (zru (zbl B) t p)))) := (gq.tr ⟨fun i a _ _ b => u4 i a b, fun j _ _ _ _ a b => u5 j a b, fun j _ => by rw [u4 2 (by decide) (by decide)]⟩).tr (zHt.s (by omega))
      rcases f3 with ⟨rfl, I2', k1, k2, k3⟩ | ⟨rfl, I2', p2, m2, L2, k1, k2, k3, k4, k5, k6, k7, k8, k9⟩
      · rw [if_pos rfl, k1]
        exact ⟨0, I2, rfl, (zHc.s (by omega)).tr f2, Or.inl ⟨rfl, I2', rfl, gt.tr k2, k3⟩⟩
      · obtain ⟨X2, C2, e92, e132, hm2, hv2⟩ := id k3
        obtain ⟨ck, cn, cv⟩ := zCo_i.mp C2
        have hp2 := X2.2.2.2.2.1
        have hlen : (L ++ L2).length < 400 := by rw [List.length_append]; omega
        obtain ⟨I3, w1, w2, w3, w4⟩ := p_putC (σ := σ) (J := J) (x := 200011) ck hlen
        obtain ⟨I3', v1, v2, v3, v4, v5, v6, v7⟩ := p_set1 (J := J') (y := 200011) (s := 3) (z := 3) rfl htt cn k4 k5 (show 3 ≤ zsr 11 by decide) (by omega) hlen (by omega) (by decide) (fun _ => by omega)
        rw [if_neg z10, zak53 (by omega), show (200011 : Int32) = nI 200011 from rfl, w1, zkV_s, k1, zG0_e v1]
        refine ⟨1, I3, rfl, ((zHc.s (by omega)).tr f2).tr w3, Or.inr ⟨rfl, I3', p2, m2, L2 ++ [200011], rfl, (gt.tr k2).tr v5, ⟨zLx_f X2 (fun k hk => w4 k (by omega)) (w3.1 12 (by decide) (by decide)) (fun k hk => v7 k (by omega) (by omega)) (v5.1 1 (by decide) (by decide) (by decide) (by decide)), ?_, by rw [w4 9 (by decide)]; exact e92, by rw [v7 13 (by decide) (by decide)]; exact e132, hm2, ?_, by rw [w4 4 (by decide)]; exact hv2.2⟩, v3, by rw [v4, if_pos rfl]; rfl, by omega, k7, ?_, fun ty => ?_⟩⟩
        · rw [← List.append_assoc]
          exact zCo_i.mpr ⟨w2, v2, fun x hx => by
            rcases List.mem_append.mp hx with h | h
            · exact cv x h
            · rw [List.mem_singleton.mp h]; exact Or.inr (by omega)⟩
        · rw [← List.append_assoc, znv_app]
          exact hv2.1
        · rw [List.length_append, List.length_singleton]
          omega
        · rw [zty_app L2 [200011] _ _ (k9 ty)]
          simp [zty]
    · have hk' : k = 10 := by omega
      subst hk'
      rw [if_neg (show ¬ nI 10 < (10 : Int32) by decide), zak62 (by omega), a2, p_failC s11, p_opn0 e14q (zsI_at _ _ _ _) (by rw [zsI_no _ _ _ (by decide)]; exact b10), zkI_s, if_pos rfl, zkI_s, if_pos rfl]
      exact ⟨0, _, rfl, zHc.s (by omega), Or.inl ⟨rfl, _, rfl, gq.tr (zHt.s (by omega)), zBad_of (k := 2) rfl (by omega) (by omega)⟩⟩
  · rw [if_neg hv, if_neg (show ¬ (-1 : Int32) = 0 by decide), zak64 (by omega), p_sign s11 T a1 a2 hq, zkI_s]
    have hB : zru (zbl B) t p < t → B (zru (zbl B) t p) < 256 := fun h => (T.2 _ h).1
    by_cases hb : zru (zbl B) t p < t ∧ B (zru (zbl B) t p) = 91
    · rw [if_pos (show zby B t (zru (zbl B) t p) = 91 from (zby_eq hB (s := 91) (by omega)).1.mpr hb), zF0_bra T b1 b2 hp rfl hv hb]
      by_cases hk10 : k < 10
      · rw [if_pos (show nI k < (10 : Int32) from nI_lt (b := 10) hk10 (by omega)), zak68 (by omega), p_takeS s11 T a1 a2 hb.1, zkV_s, hkx, zak55 (by omega) (by omega), t_qu_readTest]
        obtain ⟨K1, u1, u2, u3, u4, u5⟩ := p_opn1 (J := J') (x := 91) (y := 91) rfl Kq e14q hk10 (by omega)
        have HK := zRd_h Hq u4 u5
        rw [u1, zkI_s, if_neg z10, HK.1.2.2.2.1, nI_1]
        have HW := zRd_1 HK hb.1
        obtain ⟨r, I2, f1, f2, f3⟩ := ihT hk10 false false (Q ++ [91]) 0 _ m L _ _ HW (by
          show zSk (Q ++ [91] ++ []) _
          rw [List.append_nil]
          exact zSk_c u2 (zsI_no _ _ _ (by decide)) (zsI_ne _ _ _ (by decide))) (fun x hx => by
          rcases List.mem_append.mp hx with h | h
          · exact hQ x h
          · rw [List.mem_singleton.mp h]; omega) (Or.inr ⟨by omega, Q, rfl⟩) (by rw [zsI_no _ _ _ (by decide)]; exact u3) (by
          show L.length + (Q ++ [91] ++ []).length ≤ _
          rw [List.append_nil, List.length_append, List.length_singleton]; omega) (by omega)
        rw [show zkI (qm_fact_2 1 (zsI K1 0 9 (nI (zru (zbl B) t p + 1))) J') zSM (fun r I J => if r = 0 then some (some (.int 0), (zSM, I, J)) else zG0 I J) = zF0 (zsI K1 0 9 (nI (zru (zbl B) t p + 1))) J' from rfl, show qu_readTest_7 (9 + 2 * (12 - (k + 1))) (nI (k + 1)) 0 0 0 σ _ J = _ from f1, zkI_s]
        have gt : zHt tt I' (zsI K1 0 9 (nI (zru (zbl B) t p + 1))) := (gq.tr ⟨fun i a _ _ b => u4 i a b, fun j _ _ _ _ a b => u5 j a b, fun j _ => by rw [u4 2 (by decide) (by decide)]⟩).tr (zHt.s (by omega))
        rcases f3 with ⟨rfl, I2', k1, k2, k3⟩ | ⟨rfl, q2, m2, L2, kT, k1, k2, k3, k4, k5, k6, k7, -, k8⟩
        · rw [if_pos rfl, k1]
          exact ⟨0, I2, rfl, (zHc.s (by omega)).tr f2, Or.inl ⟨rfl, I2', rfl, gt.tr k2, k3⟩⟩
        · obtain ⟨k8, k9⟩ := k8 Q rfl
          rw [if_neg z10, zak69 (by omega), p_took s11 (x := 93) (s := 93) kT k1 k2 k3 rfl (by omega)]
          have hl0 : (zqfl false false).length = 0 := rfl
          by_cases h93 : q2 < t ∧ B q2 = 93
          · obtain ⟨I2', n1, n2, n3, n4, n5⟩ := k8 h93
            rw [if_pos h93, zkI_s, if_neg z10, n1]
            exact ⟨1, _, rfl, ((zHc.s (by omega)).tr f2).tr (zHc.s (by omega)), Or.inr ⟨rfl, I2', q2 + 1, m2, L2, rfl, gt.tr n2, n3, n4, n5, by omega, k5, by omega, k7⟩⟩
          · obtain ⟨I2', n1, n2, n3⟩ := k9 h93
            have hc := zcode (p := q2) (k := 0) (by omega) (by omega)
            rw [if_neg h93, zkI_s, if_pos rfl, zak62 (by omega), t_qn_wrong 11 _ _ 12 s11, zkI_s, if_pos rfl, k2, n1]
            refine ⟨0, _, rfl, ((zHc.s (by omega)).tr f2).tr (zHc.s (by omega)), Or.inl ⟨rfl, I2', rfl, gt.tr n2, ?_, ?_⟩⟩
            · rw [zsI_at, n3]
              exact hc.1
            · rw [n3]
              exact hc.2
      · have hk' : k = 10 := by omega
        subst hk'
        rw [if_neg (show ¬ nI 10 < (10 : Int32) by decide), zak62 (by omega), a2, p_failC s11, p_opn0 e14q (zsI_at _ _ _ _) (by rw [zsI_no _ _ _ (by decide)]; exact b10), zkI_s, if_pos rfl, zkI_s, if_pos rfl]
        exact ⟨0, _, rfl, zHc.s (by omega), Or.inl ⟨rfl, _, rfl, gq.tr (zHt.s (by omega)), zBad_of (k := 2) rfl (by omega) (by omega)⟩⟩
    · obtain ⟨r, I1, I1', h1, h2, h3, h4, h5⟩ := p_compare (σ := σ) (J := J) (J' := J') Hq htt (by omega)
      rw [if_neg (show ¬ zby B t (zru (zbl B) t p) = 91 from fun e => hb ((zby_eq hB (s := 91) (by omega)).1.mp e)), zF0_cmp T b1 b2 hp rfl hv hb, h2, zkI_s]
      simp only [zak58 (show 7 < 8 + 2 * (12 - k) by omega), zak57 (show 1 < 8 + 2 * (12 - k) by omega), zak62 (show 0 < 8 + 2 * (12 - k) by omega), zak54 (show 1 < 8 + 2 * (12 - k) by omega), zak53 (show 0 < 8 + 2 * (12 - k) by omega)]
      unfold zCf at h1
      rw [h1]
      rcases h5 with ⟨rfl, hbad⟩ | ⟨rfl, p1, m1, L1, w1, w2, w3, w4, w5⟩
      · rw [zif_t (show zbo 0 = true by decide), zkI_s, if_pos rfl]
        exact ⟨0, I1, rfl, h3, Or.inl ⟨rfl, I1', rfl, gq.tr h4.t, hbad⟩⟩
      · rw [zif_t (show zbo 1 = true by decide), zkI_s, if_neg z10]
        exact ⟨1, I1, rfl, h3, Or.inr ⟨rfl, I1', p1, m1, L1, rfl, gq.tr h4.t, w3, zSk_c Kq (h4.2.1 17 (by decide) (by decide) (by decide) (by decide)) (h4.1 7 (by decide) (by decide) (by decide)), by rw [h4.2.1 14 (by decide) (by decide) (by decide) (by decide)]; exact e14q, by omega, w2, by omega, w5⟩⟩
