/-! ===== both stacks work out the same ===== -/
theorem z_01 (t : Nat) (a b : Int64) (h1 : 200004 ≤ t) (h2 : t < 200009) : zjn t a b = 0 ∨ zjn t a b = 1 := by
  unfold zjn
  rw [if_neg (by omega), if_neg (by omega), if_neg (by omega), if_neg (by omega)]
  by_cases q4 : t = 200004
  · rw [if_pos q4]
    by_cases q : lg_cmp a b < 0
    · rw [if_pos q]; exact Or.inr rfl
    · rw [if_neg q]; exact Or.inl rfl
  rw [if_neg q4]
  by_cases q5 : t = 200005
  · rw [if_pos q5]
    by_cases q : (0 : Int32) < lg_cmp a b
    · rw [if_pos q]; exact Or.inl rfl
    · rw [if_neg q]; exact Or.inr rfl
  rw [if_neg q5]
  by_cases q6 : t = 200006
  · rw [if_pos q6]
    by_cases q : lg_cmp a b = 0
    · rw [if_pos q]; exact Or.inr rfl
    · rw [if_neg q]; exact Or.inl rfl
  rw [if_neg q6]
  by_cases q7 : t = 200007
  · rw [if_pos q7]
    by_cases q : lg_cmp a b < 0
    · rw [if_pos q]; exact Or.inl rfl
    · rw [if_neg q]; exact Or.inr rfl
  rw [if_neg q7, if_pos (by omega)]
  by_cases q : (0 : Int32) < lg_cmp a b
  · rw [if_pos q]; exact Or.inr rfl
  · rw [if_neg q]; exact Or.inl rfl
theorem z_ao (t : Nat) {a b : Int64} (h1 : 200009 ≤ t) (ha : a = 0 ∨ a = 1) (hb : b = 0 ∨ b = 1) : zjn t a b = 0 ∨ zjn t a b = 1 := by
  unfold zjn
  rw [if_neg (by omega), if_neg (by omega), if_neg (by omega), if_neg (by omega), if_neg (by omega), if_neg (by omega), if_neg (by omega), if_neg (by omega), if_neg (by omega)]
  by_cases q : t = 200009
  · rw [if_pos q]
    rcases ha with rfl | rfl <;> rcases hb with rfl | rfl <;> decide
  · rw [if_neg q]
    rcases ha with rfl | rfl <;> rcases hb with rfl | rfl <;> decide
/-- what one element asks of the stack -/
theorem z_step {w : Nat → Int64} {t : Nat} {l : List Nat} {ty fin : List Bool} {vs : List Int64} (hv : zvt t) (h : zty (t :: l) ty = some fin) (hb : zbv ty vs) : (t < 100012 ∧ zop w t vs = (if t < 100000 then (nI t).toInt64 else w (t - 100000)) :: vs ∧ zty l (false :: ty) = some fin ∧ zbv (false :: ty) (zop w t vs) ∧ znv (t :: l) = 1 + znv l) ∨ (t = 200011 ∧ ∃ a r ty', vs = a :: r ∧ zop w t vs = (1 - a) :: r ∧ zty l ty' = some fin ∧ ty'.length = ty.length ∧ zbv ty' (zop w t vs) ∧ znv (t :: l) = znv l) ∨ (200000 ≤ t ∧ t ≤ 200010 ∧ ∃ a b r ty', vs = b :: a :: r ∧ zop w t vs = zjn t a b :: r ∧ zty l ty' = some fin ∧ ty.length = ty'.length + 1 ∧ zbv ty' (zop w t vs) ∧ znv (t :: l) = znv l) := by
  by_cases q : t < 200000
  · left
    have ht : t < 100012 := by rcases hv with h | h <;> omega
    have e : zop w t vs = (if t < 100000 then (nI t).toInt64 else w (t - 100000)) :: vs := by
      unfold zop
      by_cases q1 : t < 100000
      · rw [if_pos q1, if_pos q1]
      · rw [if_neg q1, if_neg q1, if_pos q]
    have h' : zty l (false :: ty) = some fin := by
      unfold zty at h
      rw [if_pos q] at h
      exact h
    refine ⟨ht, e, h', ?_, ?_⟩
    · rw [e]
      exact ⟨fun hh => Bool.noConfusion hh, hb⟩
    · show (if t < 200000 then 1 else 0) + znv l = _
      rw [if_pos q]
  · have hn : znv (t :: l) = znv l := by
      show (if t < 200000 then 1 else 0) + znv l = _
      rw [if_neg q, Nat.zero_add]
    have hv' : 200000 ≤ t ∧ t ≤ 200011 := by rcases hv with h | h <;> omega
    by_cases q1 : t = 200011
    · right; left
      have e : ∀ vs, zop w t vs = (match vs with | a :: r => (1 - a) :: r | [] => []) := fun vs => by
        unfold zop
        rw [if_neg (by omega), if_neg q, if_pos q1]
        cases vs <;> rfl
      unfold zty at h
      rw [if_neg q, if_pos q1] at h
      match ty, vs, hb with
      | true :: ty', a :: r, hb =>
        refine ⟨q1, a, r, true :: ty', rfl, e _, h, rfl, ?_, hn⟩
        rw [e]
        refine ⟨fun _ => ?_, hb.2⟩
        rcases hb.1 rfl with h | h
        · right; rw [h]; decide
        · left; rw [h]; decide
      | false :: ty', a :: r, hb => cases h
      | [], [], hb => cases h
    · right; right
      have e : ∀ vs, zop w t vs = (match vs with | b :: a :: r => zjn t a b :: r | _ => vs) := fun vs => by
        unfold zop
        rw [if_neg (by omega), if_neg q, if_neg q1]
        match vs with
        | [] => rfl
        | [_] => rfl
        | _ :: _ :: _ => rfl
      unfold zty at h
      rw [if_neg q, if_neg q1] at h
      refine ⟨hv'.1, by omega, ?_⟩
      by_cases q4 : t < 200004
      · rw [if_pos q4] at h
        match ty, vs, hb with
        | false :: false :: ty', b :: a :: r, hb =>
          exact ⟨a, b, r, false :: ty', rfl, e _, h, rfl, by rw [e]; exact ⟨fun hh => Bool.noConfusion hh, hb.2.2⟩, hn⟩
        | true :: _, _ :: _, hb => cases h
        | [], [], hb => cases h
        | [false], _, hb => cases h
        | false :: true :: _, _, hb => cases h
      · rw [if_neg q4] at h
        by_cases q9 : t < 200009
        · rw [if_pos q9] at h
          match ty, vs, hb with
          | false :: false :: ty', b :: a :: r, hb =>
            exact ⟨a, b, r, true :: ty', rfl, e _, h, rfl, by rw [e]; exact ⟨fun _ => z_01 t a b (by omega) q9, hb.2.2⟩, hn⟩
          | true :: _, _ :: _, hb => cases h
          | [], [], hb => cases h
          | [false], _, hb => cases h
          | false :: true :: _, _, hb => cases h
        · rw [if_neg q9] at h
          match ty, vs, hb with
          | true :: true :: ty', b :: a :: r, hb =>
            exact ⟨a, b, r, true :: ty', rfl, e _, h, rfl, by rw [e]; exact ⟨fun _ => z_ao t (by omega) (hb.2.1 rfl) (hb.1 rfl), hb.2.2⟩, hn⟩
          | false :: _, _ :: _, hb => cases h
          | [], [], hb => cases h
          | [true], _, hb => cases h
          | true :: false :: _, _, hb => cases h
theorem z_sub1 {t k : Nat} (h : k ≤ t) : nI t - nI k = nI (t - k) := by
  rw [show nI t = nI (t - k) + nI k by rw [nI_add, Nat.sub_add_cancel h]]
  exact Int32.add_sub_cancel _ _
theorem z_neg {t k : Nat} (h : t < k) (hk : k < 1000000) : nI t - nI k < 0 := by
  apply Int32.lt_iff_toInt_lt.mpr
  rw [zti_sub (nI_toInt (by omega)) (nI_toInt (by omega)) (by omega) (by omega)]
  have : (0 : Int32).toInt = 0 := by decide
  omega
set_option maxHeartbeats 4000000 in
theorem p_w17 {sh : List zE} {q cq lq sq n m e : Nat} {I : zTI} {w : Nat → Int64} {τ : Bool} (R : zRS sh q cq lq sq n m) (hn : n ≤ 400) (he : e ≤ n) : ∀ (l : List Nat) (i : Nat) (vs : List Int64) (ty : List Bool) (J : zTJ), i + l.length = e → (∀ j, j < l.length → I cq (i + j) = nI (l[j]?.getD 0)) → (∀ t, t ∈ l → zvt t) → zty l ty = some [τ] → zbv ty vs → ty.length + znv l ≤ 60 → zstk (J sq) vs → (∀ k, k < 12 → J 18 k = w k) → ∃ J1 v, ql_worked_17 q (nI e) (nI vs.length) (nI i) sh I J = some (some (.long v), (sh, I, J1)) ∧ zgo w l vs = [v] ∧ (τ = true → v = 0 ∨ v = 1) ∧ (∀ r, r ≠ sq → J1 r = J r) := by
  obtain ⟨k0, rf, r1, r2, r3, r4, hq, hr0, hr1, hr2, hc, hl, hs, h18, hne⟩ := R
  intro l
  induction l with
  | nil =>
    intro i vs ty J ei hI hv ht hb hb60 hS h18'
    have ht' : ty = [τ] := by
      unfold zty at ht
      exact Option.some.inj ht
    subst ht'
    match vs, hb with
    | [v], hb =>
      have ei' : i = e := by simpa using ei
      rw [t_ql_worked_17, if_neg (fun h => by have := (nI_ltI (by omega) (by omega)).mp h; omega), zob_s hq, hr2, zrf_so, zar_s hs, zif_t (by decide)]
      exact ⟨J, v, by rw [show J sq 0 = v from hS.1], rfl, fun h => hb.1 h, fun _ _ => rfl⟩
  | cons t l ih =>
    intro i vs ty J ei hI hv ht hb hb60 hS h18'
    have hlen := zbv_len ty vs hb
    have hi : i < e := by simp at ei; omega
    have e0 : I cq i = nI t := by
      have := hI 0 (by simp)
      simpa using this
    have hI' : ∀ j, j < l.length → I cq (i + 1 + j) = nI (l[j]?.getD 0) := fun j hj => by
      have := hI (j + 1) (by simp; omega)
      rw [show i + (j + 1) = i + 1 + j by omega] at this
      simpa using this
    have hvt := hv t (by simp)
    have htl : t < 2 ^ 31 := by rcases hvt with h | h <;> omega
    have ei1 : i + 1 + l.length = e := by simp at ei; omega
    have hv' : ∀ t, t ∈ l → zvt t := fun t ht => hv t (by simp [ht])
    rw [t_ql_worked_17, if_pos (nI_lt hi (by omega)), zob_s hq, hr0, zrf_so, zal_s hc rfl, if_pos (show nI i < Int32.ofNat n from nI_lt (by omega) (by omega)), zob_s hq, hr2, zrf_so, zal_s hs rfl, if_pos (show nI vs.length < Int32.ofNat 64 from nI_lt (b := 64) (by omega) (by decide)), zob_s hq, hr0, zrf_so, zar_s hc, zif_n (by omega) (by omega), ztnn (by omega), e0, show nI i + 1 = nI (i + 1) from nI_add i 1, ztnn (show vs.length < 2 ^ 31 by omega)]
    rcases z_step (w := w) hvt ht hb with ⟨t1, t2, t3, t4, t5⟩ | ⟨t1, a, r, ty', rfl, t3, t4, t5, t6, t7⟩ | ⟨t0, t1, a, b, r, ty', rfl, t3, t4, t5, t6, t7⟩
    · rw [if_pos (show nI t < (200000 : Int32) from nI_lt (b := 200000) (by omega) (by decide)), zob_s hq, hr2, zrf_so]
      have push : ∀ v : Int64, v = (if t < 100000 then (nI t).toInt64 else w (t - 100000)) → ∃ J1 v', (zar (sh, I, J) sq 14 (fun n13 _ => (zif (zin (nI vs.length) n13) (ql_worked_17 q (nI e) (nI vs.length + 1) (nI (i + 1)) sh I (zsJ J sq vs.length v))))) = some (some (.long v'), (sh, I, J1)) ∧ zgo w (t :: l) vs = [v'] ∧ (τ = true → v' = 0 ∨ v' = 1) ∧ (∀ r, r ≠ sq → J1 r = J r) := by
        intro v hv0
        have e1 : zop w t vs = v :: vs := by rw [t2, ← hv0]
        rw [zar_s hs, zif_n (by omega) (by omega), show nI vs.length + 1 = nI (v :: vs).length from nI_add vs.length 1]
        rw [e1] at t4
        obtain ⟨J1, v', f1, f2, f3, f4⟩ := ih (i + 1) (v :: vs) (false :: ty) (zsJ J sq vs.length v) ei1 hI' hv' t3 t4 (by rw [t5] at hb60; simp; omega) ⟨zsJ_at _ _ _ _, zstk_c vs hS (fun k hk => zsJ_no _ _ _ (by omega))⟩ (fun k hk => by rw [zsJ_ne _ _ _ (fun h => hne h.symm)]; exact h18' k hk)
        refine ⟨J1, v', f1, ?_, f3, fun r hr => by rw [f4 r hr, zsJ_ne _ _ _ hr]⟩
        show zgo w l (zop w t vs) = [v']
        rw [e1]
        exact f2
      by_cases q1 : t < 100000
      · rw [if_pos (show nI t - (100000 : Int32) < 0 from z_neg (k := 100000) q1 (by omega))]
        exact push _ (by rw [if_pos q1])
      · have es : nI t - 100000 = nI (t - 100000) := z_sub1 (k := 100000) (by omega)
        rw [es, if_neg (znn (by omega)), zal_s h18 rfl, if_pos (show nI (t - 100000) < Int32.ofNat 12 from nI_lt (b := 12) (by omega) (by decide)), zar_s h18, zif_n (by omega) (by omega), ztnn (by omega)]
        exact push _ (by rw [if_neg q1, h18' _ (by omega)])
    · have hx : (a :: r).length = r.length + 1 := rfl
      have ex : nI (r.length + 1) - 1 = nI r.length := z_sub1 (k := 1) (by omega)
      rw [if_neg (show ¬ nI t < (200000 : Int32) from fun h => by have := (nI_ltI (b := 200000) (by omega) (by decide)).mp h; omega), if_pos (show nI t = (200011 : Int32) by rw [t1]; rfl), hx, if_pos (show (0 : Int32) < nI (r.length + 1) from nI_lt (a := 0) (by omega) (by simp at hlen; omega)), zob_s hq, hr2, zrf_so, zob_s hq, hr2, zrf_so, zar_s hs, ex, zif_n (by simp at hlen; omega) (by omega), zar_s hs, zif_n (by simp at hlen; omega) (by omega), ztnn (by simp at hlen; omega), hS.1]
      rw [t3] at t6
      obtain ⟨J1, v', f1, f2, f3, f4⟩ := ih (i + 1) ((1 - a) :: r) ty' (zsJ J sq r.length (1 - a)) ei1 hI' hv' t4 t6 (by rw [t7] at hb60; omega) ⟨zsJ_at _ _ _ _, zstk_c r hS.2 (fun k hk => zsJ_no _ _ _ (by omega))⟩ (fun k hk => by rw [zsJ_ne _ _ _ (fun h => hne h.symm)]; exact h18' k hk)
      refine ⟨J1, v', f1, ?_, f3, fun r hr => by rw [f4 r hr, zsJ_ne _ _ _ hr]⟩
      show zgo w l (zop w t (a :: r)) = [v']
      rw [t3]
      exact f2
    · have hx : (b :: a :: r).length = r.length + 2 := rfl
      have hl2 : r.length + 2 = ty.length := hlen
      have ex : nI (r.length + 2) + (-1) = nI (r.length + 1) := by
        rw [show nI (r.length + 2) + (-1) = nI (r.length + 2) - 1 from (Int32.sub_eq_add_neg _ _).symm]
        exact z_sub1 (k := 1) (by omega)
      have ey : nI (r.length + 1) - 1 = nI r.length := z_sub1 (k := 1) (by omega)
      rw [if_neg (show ¬ nI t < (200000 : Int32) from fun h => by have := (nI_ltI (b := 200000) (by omega) (by decide)).mp h; omega), if_neg (show ¬ nI t = (200011 : Int32) from fun h => by have := znI (b := 200011) (by omega) (by decide) h; omega), hx, if_pos (show (1 : Int32) < nI (r.length + 2) from nI_lt (a := 1) (by omega) (by omega)), ex, ey, zob_s hq, hr2, zrf_so, zob_s hq, hr2, zrf_so, zar_s hs, zif_n (by omega) (by omega), zob_s hq, hr2, zrf_so, zar_s hs, zif_n (by omega) (by omega), ztnn (show r.length < 2 ^ 31 by omega), ztnn (show r.length + 1 < 2 ^ 31 by omega), p_joined htl, zkJ_s, zar_s hs, zif_n (by omega) (by omega)]
      have sb : J sq (r.length + 1) = b := hS.1
      have sa : J sq r.length = a := hS.2.1
      rw [sa, sb]
      rw [t3] at t6
      obtain ⟨J1, v', f1, f2, f3, f4⟩ := ih (i + 1) (zjn t a b :: r) ty' (zsJ J sq r.length (zjn t a b)) ei1 hI' hv' t4 t6 (by rw [t7] at hb60; omega) ⟨zsJ_at _ _ _ _, zstk_c r hS.2.2 (fun k hk => zsJ_no _ _ _ (by omega))⟩ (fun k hk => by rw [zsJ_ne _ _ _ (fun h => hne h.symm)]; exact h18' k hk)
      refine ⟨J1, v', f1, ?_, f3, fun r hr => by rw [f4 r hr, zsJ_ne _ _ _ hr]⟩
      show zgo w l (zop w t (b :: a :: r)) = [v']
      rw [t3]
      exact f2
