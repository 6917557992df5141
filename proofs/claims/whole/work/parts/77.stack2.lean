/-! ===== the reference's stack ===== -/
def zsgn (t : Nat) : Nat := if t < 100000 then 16 * t + 0 else if t < 200000 then 16 * (t - 100000) + 1 else 16 * 0 + zjs t
theorem z_lo {v s : Nat} (hs : s < 16) : nI (16 * v + s) &&& 15 = nI s := by
  rw [show (15 : Int32) = nI 15 from rfl, z_and_nI, show 15 = 2 ^ 4 - 1 from rfl, Nat.and_two_pow_sub_one_eq_mod, show (16 * v + s) % 2 ^ 4 = s by omega]
theorem z_hi {v s : Nat} (hs : s < 16) (hv : 16 * v + s < 2 ^ 31) : nI (16 * v + s) >>> (4 &&& 31) = nI v := by
  apply b_ext
  intro i hi
  rw [show (4 : Int32) = nI 4 from rfl, b_sshr 4 (by omega) _ hi, bt_nI hi]
  have e : (16 * v + s) / 2 ^ 4 = v := by omega
  have h : ((16 * v + s) / 2 ^ 4).testBit i = (16 * v + s).testBit (i + 4) := Nat.testBit_div_two_pow _ _
  rw [e] at h
  by_cases q : 4 + i < 32
  · rw [if_pos q, bt_nI q, h, Nat.add_comm 4 i]
  · rw [if_neg q, bt_nI (by omega), Nat.testBit_lt_two_pow (show 16 * v + s < 2 ^ 31 from hv), Nat.testBit_lt_two_pow (Nat.lt_of_lt_of_le (show v < 2 ^ 27 by omega) (Nat.pow_le_pow_right (by omega) (by omega)))]
theorem p_push {I : zTI} {J : zTJ} {n : Nat} {v : Int64} (h : I 0 19 = nI n) (hn : n < 64) : qm_push v I J = some (none, (zSM, zsI I 0 19 (nI (n + 1)), zsJ J 8 n v)) := by
  rw [t_qm_push, h, zif_n hn (by omega), ztnn (by omega), nI_1]
theorem p_pop {I : zTI} {J : zTJ} {n : Nat} (h : I 0 19 = nI (n + 1)) (hn : n < 64) : qm_pop I J = some (some (.long (J 8 n)), (zSM, zsI I 0 19 (nI n), J)) := by
  rw [t_qm_pop, h, show nI (n + 1) - 1 = nI n from z_sub1 (k := 1) (by omega), zif_n hn (by omega), ztnn (by omega)]
theorem zjs_lt (t : Nat) (h1 : 200000 ≤ t) (h2 : t ≤ 200011) : zjs t < 16 ∧ zjs t ≠ 0 ∧ zjs t ≠ 1 ∧ (zjs t = 11 ↔ t = 200011) := by
  unfold zjs
  by_cases q : t = 200011
  · rw [if_pos q]
    omega
  · rw [if_neg q]
    by_cases q2 : t < 200009
    · rw [if_pos q2]
      omega
    · rw [if_neg q2]
      omega
/-- what the reference changes when it reckons -/
def zKr (I I1 : zTI) : Prop := (∀ i, i ≠ 0 → I1 i = I i) ∧ ∀ k, k ≠ 19 → I1 0 k = I 0 k
theorem zKr.rf {I : zTI} : zKr I I := ⟨fun _ _ => rfl, fun _ _ => rfl⟩
theorem zKr.tr {I I1 I2 : zTI} (h : zKr I I1) (h2 : zKr I1 I2) : zKr I I2 := ⟨fun i a => (h2.1 i a).trans (h.1 i a), fun k a => (h2.2 k a).trans (h.2 k a)⟩
theorem zKr_w {I : zTI} {v : Int32} : zKr I (zsI I 0 19 v) := ⟨fun i h => zsI_ne _ _ _ h, fun k h => zsI_no _ _ _ h⟩
set_option maxHeartbeats 4000000 in
theorem p_r8 {tt e : Nat} {w : Nat → Int64} {τ : Bool} (htt : tt < 6) (he : e ≤ 400) : ∀ (l : List Nat) (i : Nat) (vs : List Int64) (ty : List Bool) (I : zTI) (J : zTJ), i + l.length = e → (∀ j, j < l.length → I 2 (400 * tt + (i + j)) = nI (zsgn (l[j]?.getD 0))) → (∀ t, t ∈ l → zvt t) → zty l ty = some [τ] → zbv ty vs → ty.length + znv l ≤ 60 → I 0 19 = nI vs.length → zstk (J 8) vs → (∀ k, k < 12 → J 9 k = w k) → ∃ I1 J1 v, qm_reckons_8 (nI tt) (nI e) (nI i) I J = some (some (.long v), (zSM, I1, J1)) ∧ zgo w l vs = [v] ∧ zKr I I1 ∧ (∀ r, r ≠ 8 → J1 r = J r) := by
  intro l
  induction l with
  | nil =>
    intro i vs ty I J ei hI hv ht hb hb60 h19 hS h9
    have ht' : ty = [τ] := by
      unfold zty at ht
      exact Option.some.inj ht
    subst ht'
    match vs, hb with
    | [v], hb =>
      have ei' : i = e := by simpa using ei
      rw [t_qm_reckons_8, if_neg (fun h => by have := (nI_ltI (by omega) (by omega)).mp h; omega), p_pop (n := 0) h19 (by omega), zkJ_s]
      exact ⟨_, J, v, by rw [show J 8 0 = v from hS.1], rfl, zKr_w, fun _ _ => rfl⟩
  | cons t l ih =>
    intro i vs ty I J ei hI hv ht hb hb60 h19 hS h9
    have hlen := zbv_len ty vs hb
    have hi : i < e := by simp at ei; omega
    have e0 : I 2 (400 * tt + i) = nI (zsgn t) := by
      have := hI 0 (by simp)
      simpa using this
    have hI' : ∀ j, j < l.length → I 2 (400 * tt + (i + 1 + j)) = nI (zsgn (l[j]?.getD 0)) := fun j hj => by
      have := hI (j + 1) (by simp; omega)
      rw [show i + (j + 1) = i + 1 + j by omega] at this
      simpa using this
    have hvt := hv t (by simp)
    have ei1 : i + 1 + l.length = e := by simp at ei; omega
    have hv' : ∀ t, t ∈ l → zvt t := fun t ht => hv t (by simp [ht])
    have ex : (400 : Int32) * nI tt + nI i = nI (400 * tt + i) := by
      rw [show (400 : Int32) * nI tt = nI (400 * tt) from (Int32.ofNat_mul 400 tt).symm, nI_add]
    have nx : ∀ (I2 : zTI) (J2 : zTJ) (vs2 : List Int64) (ty2 : List Bool), zgo w (t :: l) vs = zgo w l vs2 → zKr I I2 → (∀ r, r ≠ 8 → J2 r = J r) → zty l ty2 = some [τ] → zbv ty2 vs2 → ty2.length + znv l ≤ 60 → I2 0 19 = nI vs2.length → zstk (J2 8) vs2 → ∃ I1 J1 v, qm_reckons_8 (nI tt) (nI e) (nI (i + 1)) I2 J2 = some (some (.long v), (zSM, I1, J1)) ∧ zgo w (t :: l) vs = [v] ∧ zKr I I1 ∧ (∀ r, r ≠ 8 → J1 r = J r) := by
      intro I2 J2 vs2 ty2 hg hK hJ a1 a2 a3 a4 a5
      obtain ⟨I1, J1, v, f1, f2, f3, f4⟩ := ih (i + 1) vs2 ty2 I2 J2 ei1 (fun j hj => by rw [hK.1 2 (by decide)]; exact hI' j hj) hv' a1 a2 a3 a4 a5 (fun k hk => by rw [hJ 9 (by decide)]; exact h9 k hk)
      exact ⟨I1, J1, v, f1, by rw [hg]; exact f2, hK.tr f3, fun r hr => by rw [f4 r hr, hJ r hr]⟩
    rw [t_qm_reckons_8, if_pos (nI_lt hi (by omega)), ex, zif_n (by omega) (by omega), zif_n (by omega) (by omega), ztnn (by omega), e0, show nI i + 1 = nI (i + 1) from nI_add i 1]
    rcases z_step (w := w) hvt ht hb with ⟨t1, t2, t3, t4, t5⟩ | ⟨t1, a, r, ty', rfl, t3, t4, t5, t6, t7⟩ | ⟨t0, t1, a, b, r, ty', rfl, t3, t4, t5, t6, t7⟩
    · by_cases q1 : t < 100000
      · rw [if_pos q1] at t2
        have es : zsgn t = 16 * t + 0 := if_pos q1
        rw [es, z_lo (by omega), if_pos (show nI 0 = 0 from rfl), z_hi (by omega) (by omega), p_push h19 (by omega), zkV_s]
        exact nx _ _ ((nI t).toInt64 :: vs) _ (by show zgo w l (zop w t vs) = _; rw [t2]) zKr_w (fun r hr => zsJ_ne _ _ _ hr) t3 (by rw [t2] at t4; exact t4) (by rw [t5] at hb60; simp; omega) (by rw [zsI_at]; rfl) ⟨zsJ_at _ _ _ _, zstk_c vs hS (fun k hk => zsJ_no _ _ _ (by omega))⟩
      · rw [if_neg q1] at t2
        have es : zsgn t = 16 * (t - 100000) + 1 := by
          unfold zsgn
          rw [if_neg q1, if_pos (by omega)]
        rw [es, z_lo (by omega), if_neg (show ¬ nI 1 = 0 by decide), if_pos (show nI 1 = 1 from rfl), z_hi (by omega) (by omega), zif_n (by omega) (by omega), ztnn (by omega), h9 _ (by omega), p_push h19 (by omega), zkV_s]
        exact nx _ _ (w (t - 100000) :: vs) _ (by show zgo w l (zop w t vs) = _; rw [t2]) zKr_w (fun r hr => zsJ_ne _ _ _ hr) t3 (by rw [t2] at t4; exact t4) (by rw [t5] at hb60; simp; omega) (by rw [zsI_at]; rfl) ⟨zsJ_at _ _ _ _, zstk_c vs hS (fun k hk => zsJ_no _ _ _ (by omega))⟩
    · obtain ⟨j1, j2, j3, j4⟩ := zjs_lt t (by omega) (by omega)
      have es : zsgn t = 16 * 0 + zjs t := by
        unfold zsgn
        rw [if_neg (by omega), if_neg (by omega)]
      have hl2 : r.length + 1 = ty.length := hlen
      rw [es, z_lo j1, if_neg (show ¬ nI (zjs t) = (0 : Int32) from fun h => j2 (znI (b := 0) (by omega) (by decide) h)), if_neg (show ¬ nI (zjs t) = (1 : Int32) from fun h => j3 (znI (b := 1) (by omega) (by decide) h)), if_pos (show nI (zjs t) = (11 : Int32) by rw [j4.mpr t1]; rfl), p_pop (n := r.length) h19 (by omega), zkJ_s, show J 8 r.length = a from hS.1, p_push (n := r.length) (by rw [zsI_at]) (by omega), zkV_s]
      rw [t3] at t6
      exact nx _ _ ((1 - a) :: r) _ (by show zgo w l (zop w t (a :: r)) = _; rw [t3]) (zKr_w.tr zKr_w) (fun r hr => zsJ_ne _ _ _ hr) t4 t6 (by rw [t7] at hb60; omega) (by rw [zsI_at]; rfl) ⟨zsJ_at _ _ _ _, zstk_c r hS.2 (fun k hk => zsJ_no _ _ _ (by omega))⟩
    · obtain ⟨j1, j2, j3, j4⟩ := zjs_lt t (by omega) (by omega)
      have es : zsgn t = 16 * 0 + zjs t := by
        unfold zsgn
        rw [if_neg (by omega), if_neg (by omega)]
      have hl2 : r.length + 2 = ty.length := hlen
      rw [es, z_lo j1, if_neg (show ¬ nI (zjs t) = (0 : Int32) from fun h => j2 (znI (b := 0) (by omega) (by decide) h)), if_neg (show ¬ nI (zjs t) = (1 : Int32) from fun h => j3 (znI (b := 1) (by omega) (by decide) h)), if_neg (show ¬ nI (zjs t) = (11 : Int32) from fun h => by have := j4.mp (znI (b := 11) (by omega) (by decide) h); omega), p_pop (n := r.length + 1) h19 (by omega), zkJ_s, p_pop (n := r.length) (by rw [zsI_at]) (by omega), zkJ_s, show J 8 (r.length + 1) = b from hS.1, show J 8 r.length = a from hS.2.1, p_one t0 t1, zkJ_s, p_push (n := r.length) (by rw [zsI_at]) (by omega), zkV_s]
      rw [t3] at t6
      exact nx _ _ (zjn t a b :: r) _ (by show zgo w l (zop w t (b :: a :: r)) = _; rw [t3]) ((zKr_w.tr zKr_w).tr zKr_w) (fun r hr => zsJ_ne _ _ _ hr) t4 t6 (by rw [t7] at hb60; omega) (by rw [zsI_at]; rfl) ⟨zsJ_at _ _ _ _, zstk_c r hS.2.2 (fun k hk => zsJ_no _ _ _ (by omega))⟩
/-- a piece of the code -/
def zsg_ (L : List Nat) (i e : Nat) : List Nat := (L.drop i).take (e - i)
theorem zsg_len {L : List Nat} {i e : Nat} (h : e ≤ L.length) : (zsg_ L i e).length = e - i := by
  unfold zsg_
  rw [List.length_take, List.length_drop]
  omega
theorem zsg_at {L : List Nat} {i e j : Nat} (hj : j < e - i) : (zsg_ L i e)[j]? = L[i + j]? := by
  unfold zsg_
  rw [List.getElem?_take, if_pos hj, List.getElem?_drop]
theorem p_worked {sh : List zE} {q cq lq sq n m i e : Nat} {I : zTI} {J : zTJ} {w : Nat → Int64} {τ : Bool} {L : List Nat} (R : zRS sh q cq lq sq n m) (hn : n ≤ 400) (eL : L.length = n) (hie : i ≤ e) (he : e ≤ n) (hI : ∀ j, j < n → I cq j = nI (L[j]?.getD 0)) (hv : ∀ t, t ∈ L → zvt t) (ht : zty (zsg_ L i e) [] = some [τ]) (h60 : znv (zsg_ L i e) ≤ 60) (h18 : ∀ k, k < 12 → J 18 k = w k) : ∃ J1 v, ql_worked q (nI i) (nI e) sh I J = some (some (.long v), (sh, I, J1)) ∧ zgo w (zsg_ L i e) [] = [v] ∧ (τ = true → v = 0 ∨ v = 1) ∧ (∀ r, r ≠ sq → J1 r = J r) := by
  obtain ⟨k0, rf, r1, r2, r3, r4, hq, hr0, hr1, hr2, hc, hl, hs, h18s, hne⟩ := id R
  rw [t_ql_worked, zob_s hq, hr2, zrf_so, zar_s hs, zif_t (by decide), if_neg (znn (by omega))]
  obtain ⟨J1, v, f1, f2, f3, f4⟩ := p_w17 (w := w) (τ := τ) (I := I) R hn he (zsg_ L i e) i [] [] (zsJ J sq 0 0) (by rw [zsg_len (by omega)]; omega) (fun j hj => by
    rw [zsg_len (by omega)] at hj
    rw [zsg_at hj]
    exact hI (i + j) (by omega)) (fun t ht => hv t (List.mem_of_mem_drop (List.mem_of_mem_take ht))) ht trivial (by simpa using h60) trivial (fun k hk => by rw [zsJ_ne _ _ _ (fun h => hne h.symm)]; exact h18 k hk)
  exact ⟨J1, v, f1, f2, f3, fun r hr => by rw [f4 r hr, zsJ_ne _ _ _ hr]⟩
theorem p_reckons {tt i e : Nat} {I : zTI} {J : zTJ} {w : Nat → Int64} {τ : Bool} {L : List Nat} (htt : tt < 6) (hn : L.length ≤ 400) (hie : i ≤ e) (he : e ≤ L.length) (hI : ∀ j, j < L.length → I 2 (400 * tt + j) = nI (zsgn (L[j]?.getD 0))) (hv : ∀ t, t ∈ L → zvt t) (ht : zty (zsg_ L i e) [] = some [τ]) (h60 : znv (zsg_ L i e) ≤ 60) (h9 : ∀ k, k < 12 → J 9 k = w k) : ∃ I1 J1 v, qm_reckons (nI tt) (nI i) (nI e) I J = some (some (.long v), (zSM, I1, J1)) ∧ zgo w (zsg_ L i e) [] = [v] ∧ zKr I I1 ∧ (∀ r, r ≠ 8 → J1 r = J r) := by
  rw [t_qm_reckons]
  obtain ⟨I1, J1, v, f1, f2, f3, f4⟩ := p_r8 (tt := tt) (w := w) (τ := τ) htt (show e ≤ 400 by omega) (zsg_ L i e) i [] [] (zsI I 0 19 0) J (by rw [zsg_len he]; omega) (fun j hj => by
    rw [zsg_len he] at hj
    rw [zsg_at hj, zsI_ne _ _ _ (by decide)]
    exact hI (i + j) (by omega)) (fun t ht => hv t (List.mem_of_mem_drop (List.mem_of_mem_take ht))) ht trivial (by simpa using h60) (by rw [zsI_at]; rfl) trivial h9
  exact ⟨I1, J1, v, f1, f2, zKr_w.tr f3, f4⟩
