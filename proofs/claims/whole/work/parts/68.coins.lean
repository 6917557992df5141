/-! ===== lending: the reference's coins of a row ===== -/
def zhm (S : Nat → Int32) (r : Nat) : Nat := (S (144 + 5 * r + 0)).toNatClampNeg
def zwi (S : Nat → Int32) (r k : Nat) : Nat := (S (174 + 12 * r + k)).toNatClampNeg
theorem zhm_e {nb nk ns nr nh r : Nat} {S : Nat → Int32} (N : zNs nb nk ns nr nh) (O : zOK nb nk ns nr nh S) (hr : r < nr) : S (144 + 5 * r + 0) = nI (zhm S r) ∧ zhm S r < ns := by
  obtain ⟨d, hd, e⟩ := zk_r0 N O hr
  have := N.2.2.1
  unfold zhm
  rw [e, ztnn (by omega)]
  exact ⟨rfl, hd⟩
theorem zwi_e {nb nk ns nr nh r k : Nat} {S : Nat → Int32} (N : zNs nb nk ns nr nh) (O : zOK nb nk ns nr nh S) (hr : r < nr) (hk : k < 12) : S (174 + 12 * r + k) = nI (zwi S r k) ∧ zwi S r k ≤ 99 := by
  obtain ⟨d, hd, e⟩ := zk_w N O hr hk
  unfold zwi
  rw [e, ztnn (by omega)]
  exact ⟨rfl, hd⟩
/-- a reader that can be asked, what he can be lent; rows: 0 nothing, k + 1 book k -/
def zas (S : Nat → Int32) (a sp : Nat) (x : Int32) (r : Nat) : Bool := !decide (nI r = x) && decide (S (144 + 5 * r + 3) < 0) && decide (a ≤ zhm S r ∧ zhm S r ≤ sp)
def zcl (S : Nat → Int32) (b a sp : Nat) (x : Int32) (r k : Nat) : Bool := zas S a sp x r && zab S b k && decide (0 < zwi S r k)
abbrev zadm (S : Nat → Int32) (nk nr b a sp : Nat) (x : Int32) (d : Nat → Nat) : Prop := ∀ r, r < nr → d r = 0 ∨ (d r ≤ nk ∧ zcl S b a sp x r (d r - 1) = true)
abbrev zNdu (nr : Nat) (d : Nat → Nat) : Prop := ∀ i, i < nr → ∀ j, j < nr → d i ≠ 0 → d i = d j → i = j
def zLd (S : Nat → Int32) (nk nr b : Nat) (d : Nat → Nat) (s : Nat) : Int32 := zsum (fun r => -(zhv S (d r - 1))) (fun r => !decide (d r = 0) && decide (zhm S r ≤ s)) (zload S nk b (zset (zab S b) nk)) nr
def zTd (S : Nat → Int32) (nk nr b : Nat) (d : Nat → Nat) (s : Nat) : Int32 := zsum (fun r => -(ztl S b (d r - 1))) (fun r => !decide (d r = 0) && decide (zhm S r ≤ s)) (ztilt S nk b (zset (zab S b) nk)) nr
abbrev zpas (C S : Nat → Int32) (dy : Nat) (e : Int32) (nk nr b : Nat) (d : Nat → Nat) (s : Nat) : Prop := ¬ zde C dy (s + 1) + e < zdr (zLd S nk nr b d s) (zTd S nk nr b d s) (S (6 + 7 * b + 2)) (S (6 + 7 * b + 3))
def zcoi (S : Nat → Int32) (nr : Nat) (d : Nat → Nat) : Nat := zsN (fun r => zwi S r (d r - 1)) (fun r => !decide (d r = 0)) nr
theorem z_off {x : Int32} {k i : Nat} (hk : k < 32) (hi : i < 32) : bt (x &&& (((1 : Int32) <<< (nI k &&& 31)) ^^^ (-1))) i = (bt x i && !decide (i = k)) := by
  rw [b_and, b_not hi, b_shl k hk 1 hi]
  by_cases e : i = k
  · subst e
    rw [Nat.sub_self, b_one 0 (by omega)]
    simp
  · rw [decide_eq_false e]
    by_cases l : k ≤ i
    · rw [b_one _ (by omega), decide_eq_false (show ¬ i - k = 0 by omega)]
      simp
    · rw [decide_eq_false l]
      simp
/-- one book less -/
theorem zsum_off {f : Nat → Int32} {x a : Int32} {k nk : Nat} (hn : nk ≤ 12) (hk : k < nk) (hb : bt x k = true) : zsum f (bt (x &&& (((1 : Int32) <<< (nI k &&& 31)) ^^^ (-1)))) a nk = zsum f (bt x) a nk - f k := by
  have h := zsum_flip (f := f) (p := fun i => bt x i && !decide (i = k)) (q := bt x) (a := a) (k := k) (by simp) hb (fun i hi => by simp [hi]) nk hk
  rw [h, zsum_congr nk (g := f) (q := fun i => bt x i && !decide (i = k)) (fun i hi => ⟨z_off (by omega) (by omega), fun _ => rfl⟩)]
  exact (Int32.add_sub_cancel _ _).symm
/-- whom the reference has passed -/
def zpr (S : Nat → Int32) (d : Nat → Nat) (s r j : Nat) : Bool := !decide (d j = 0) && (decide (zhm S j < s) || (decide (zhm S j = s) && decide (j < r)))
/-- what holds of the set that is left aboard -/
def zIv (S : Nat → Int32) (nk nr b : Nat) (d : Nat → Nat) (s r : Nat) (set : Int32) : Prop := (∀ k, k < nk → (bt set k = true ↔ zab S b k = true ∧ ¬ ∃ j, j < nr ∧ zpr S d s r j = true ∧ d j = k + 1)) ∧ (∀ i j, i < nr → j < nr → zpr S d s r i = true → zpr S d s r j = true → d i = d j → i = j) ∧ zload S nk b set = zsum (fun r => -(zhv S (d r - 1))) (zpr S d s r) (zload S nk b (zset (zab S b) nk)) nr ∧ ztilt S nk b set = zsum (fun r => -(ztl S b (d r - 1))) (zpr S d s r) (ztilt S nk b (zset (zab S b) nk)) nr
theorem zIv_c {S : Nat → Int32} {nk nr b : Nat} {d : Nat → Nat} {s r s' r' : Nat} {set : Int32} (h : zIv S nk nr b d s r set) (sm : ∀ j, j < nr → zpr S d s' r' j = zpr S d s r j) : zIv S nk nr b d s' r' set := by
  obtain ⟨h1, h2, h3, h4⟩ := h
  refine ⟨fun k hk => ?_, fun i j hi hj a1 a2 a3 => h2 i j hi hj (by rw [← sm i hi]; exact a1) (by rw [← sm j hj]; exact a2) a3, ?_, ?_⟩
  · rw [h1 k hk]
    constructor
    · rintro ⟨a1, a2⟩
      exact ⟨a1, fun ⟨j, b1, b2, b3⟩ => a2 ⟨j, b1, by rw [← sm j b1]; exact b2, b3⟩⟩
    · rintro ⟨a1, a2⟩
      exact ⟨a1, fun ⟨j, b1, b2, b3⟩ => a2 ⟨j, b1, by rw [sm j b1]; exact b2, b3⟩⟩
  · rw [h3]
    exact zsum_congr nr (fun j hj => ⟨(sm j hj).symm, fun _ => rfl⟩)
  · rw [h4]
    exact zsum_congr nr (fun j hj => ⟨(sm j hj).symm, fun _ => rfl⟩)
theorem zbk {S : Nat → Int32} {nk nr b a sp : Nat} {x : Int32} {d : Nat → Nat} (A : zadm S nk nr b a sp x d) {r : Nat} (hr : r < nr) (h0 : d r ≠ 0) : d r - 1 < nk ∧ zab S b (d r - 1) = true ∧ a ≤ zhm S r ∧ zhm S r ≤ sp ∧ 0 < zwi S r (d r - 1) ∧ zas S a sp x r = true := by
  rcases A r hr with h | ⟨h1, h2⟩
  · exact absurd h h0
  · have h3 := h2
    unfold zcl at h3
    simp only [Bool.and_eq_true, decide_eq_true_eq] at h3
    have h4 := h3.1.1
    unfold zas at h4
    simp only [Bool.and_eq_true, decide_eq_true_eq] at h4
    exact ⟨by omega, h3.1.2, h4.2.1, h4.2.2, h3.2, h3.1.1⟩
set_option maxHeartbeats 4000000 in
theorem p_c28r {nb nk ns nr nh b a sp s : Nat} {C : Nat → Int32} {I : zTI} {J : zTJ} {x : Int32} {d : Nat → Nat} {X : Prop} [Decidable X] (G : zGood nb nk ns nr nh C (I 10)) (hb : b < nb) (hs : s < 8) (A : zadm (I 10) nk nr b a sp x d) (h12 : ∀ r, r < nr → I 12 r = nI (d r) - 1) (fin : ∀ set, zIv (I 10) nk nr b d s nr set → qm_coinsOf_28 (nI b) (nI sp) set (nI (zsN (fun r => zwi (I 10) r (d r - 1)) (zpr (I 10) d s nr) nr)) (nI s) (nI nr) I J = some (some (.int (if zNdu nr d ∧ X then nI (zcoi (I 10) nr d) else -1)), (zSM, I, J))) :
    ∀ (n r : Nat) (set : Int32), r + n = nr → zIv (I 10) nk nr b d s r set → qm_coinsOf_28 (nI b) (nI sp) set (nI (zsN (fun r => zwi (I 10) r (d r - 1)) (zpr (I 10) d s r) nr)) (nI s) (nI r) I J = some (some (.int (if zNdu nr d ∧ X then nI (zcoi (I 10) nr d) else -1)), (zSM, I, J)) := by
  obtain ⟨⟨n0, n1, n2, n3, n4⟩, ⟨s0, s1, s2, s3, s4⟩, -⟩ := id G.1
  have N := G.1.ns
  have O := G.2.1
  intro n
  induction n with
  | zero =>
    intro r set er V
    have er' : r = nr := by omega
    subst er'
    exact fin set V
  | succ n ihn =>
    intro r set er V
    have hr : r < nr := by omega
    rw [t_qm_coinsOf_28, s3, if_pos (nI_lt hr (by omega)), zif_n (by omega) (by omega), ztnn (by omega), h12 r hr, nI_1]
    have shift : ∀ j, j ≠ r → zpr (I 10) d s (r + 1) j = zpr (I 10) d s r j := fun j hj => by
      unfold zpr
      rw [show decide (j < r + 1) = decide (j < r) from by
        by_cases l : j < r
        · rw [decide_eq_true l, decide_eq_true (show j < r + 1 by omega)]
        · rw [decide_eq_false l, decide_eq_false (show ¬ j < r + 1 by omega)]]
    have next : (d r = 0 ∨ zhm (I 10) r ≠ s) → qm_coinsOf_28 (nI b) (nI sp) set (nI (zsN (fun r => zwi (I 10) r (d r - 1)) (zpr (I 10) d s r) nr)) (nI s) (nI (r + 1)) I J = some (some (.int (if zNdu nr d ∧ X then nI (zcoi (I 10) nr d) else -1)), (zSM, I, J)) := fun h => by
      have sm : ∀ j, j < nr → zpr (I 10) d s (r + 1) j = zpr (I 10) d s r j := fun j hj => by
        by_cases q : j = r
        · subst q
          unfold zpr
          rcases h with h | h
          · rw [decide_eq_true h]; rfl
          · rw [decide_eq_false h]; simp
        · exact shift j q
      have := ihn (r + 1) set (by omega) (zIv_c V sm)
      rw [zsN_congr nr (q := zpr (I 10) d s r) sm] at this
      exact this
    by_cases h0 : d r = 0
    · rw [h0, if_pos (show nI 0 - 1 < 0 by decide)]
      exact next (Or.inl h0)
    · obtain ⟨v, hv⟩ : ∃ v, d r = v + 1 := ⟨d r - 1, by omega⟩
      obtain ⟨k1, k2, -, k3, -, -⟩ := zbk A hr h0
      have ev : nI (d r) - 1 = nI (d r - 1) := by
        rw [hv, ← nI_1, Nat.add_sub_cancel]
        exact Int32.add_sub_cancel _ _
      obtain ⟨hset, hpd, hl, ht⟩ := V
      rw [ev, if_neg (znn (by omega)), pr0 (by omega), zkI_s, (zhm_e N O hr).1]
      by_cases q : zhm (I 10) r = s
      · rw [q, if_pos rfl, zif_n (by omega) (by omega), h12 r hr, ev, p_isOf (by omega), zkI_s]
        by_cases qb : bt set (d r - 1) = true
        · rw [if_pos qb, if_neg z10, zif_n (by omega) (by omega), zif_n (by omega) (by omega), h12 r hr, ev, pw_ (by omega) (by omega), zkI_s, (zwi_e N O hr (show d r - 1 < 12 by omega)).1, nI_add]
          obtain ⟨qb1, qb2⟩ := (hset _ k1).mp qb
          have new : zpr (I 10) d s r r = false := by
            unfold zpr
            rw [q, decide_eq_false (show ¬ s < s by omega), decide_eq_false (show ¬ r < r by omega)]
            simp
          have new1 : zpr (I 10) d s (r + 1) r = true := by
            unfold zpr
            rw [q, decide_eq_false h0, decide_eq_true (show r < r + 1 by omega)]
            simp
          have oth : ∀ j, j ≠ r → zpr (I 10) d s r j = zpr (I 10) d s (r + 1) j := fun j hj => (shift j hj).symm
          have := ihn (r + 1) (set &&& (((1 : Int32) <<< (nI (d r - 1) &&& 31)) ^^^ (-1))) (by omega) ⟨fun k hk => by
            rw [z_off (by omega) (by omega), Bool.and_eq_true, hset k hk]
            constructor
            · rintro ⟨⟨a1, a2⟩, a3⟩
              refine ⟨a1, fun ⟨j, b1, b2, b3⟩ => ?_⟩
              by_cases ej : j = r
              · subst ej
                simp at a3
                omega
              · exact a2 ⟨j, b1, by rw [oth j ej]; exact b2, b3⟩
            · rintro ⟨a1, a2⟩
              refine ⟨⟨a1, fun ⟨j, b1, b2, b3⟩ => ?_⟩, ?_⟩
              · by_cases ej : j = r
                · subst ej
                  rw [new] at b2
                  cases b2
                · exact a2 ⟨j, b1, by rw [← oth j ej]; exact b2, b3⟩
              · simp
                intro ek
                exact a2 ⟨r, hr, new1, by omega⟩, fun i j hi hj a1 a2 a3 => by
            by_cases ei : i = r
            · by_cases ej : j = r
              · omega
              · exfalso
                exact qb2 ⟨j, hj, by rw [oth j ej]; exact a2, by rw [← a3, ei]; omega⟩
            · by_cases ej : j = r
              · exfalso
                exact qb2 ⟨i, hi, by rw [oth i ei]; exact a1, by rw [a3, ej]; omega⟩
              · exact hpd i j hi hj (by rw [oth i ei]; exact a1) (by rw [oth j ej]; exact a2) a3, by
            rw [show zload (I 10) nk b (set &&& (((1 : Int32) <<< (nI (d r - 1) &&& 31)) ^^^ (-1))) = _ from zsum_off n1 k1 qb, zsum_flip new new1 oth nr hr]
            show zload (I 10) nk b set - _ = _
            rw [hl, Int32.sub_eq_add_neg], by
            rw [show ztilt (I 10) nk b (set &&& (((1 : Int32) <<< (nI (d r - 1) &&& 31)) ^^^ (-1))) = _ from zsum_off n1 k1 qb, zsum_flip new new1 oth nr hr]
            show ztilt (I 10) nk b set - _ = _
            rw [ht, Int32.sub_eq_add_neg]⟩
          rw [zsN_flip new new1 oth nr hr] at this
          exact this
        · have : ∃ j, j < nr ∧ zpr (I 10) d s r j = true ∧ d j = d r - 1 + 1 := by
            by_cases q : ∃ j, j < nr ∧ zpr (I 10) d s r j = true ∧ d j = d r - 1 + 1
            · exact q
            · exact absurd ((hset _ k1).mpr ⟨k2, q⟩) qb
          obtain ⟨j, b1, b2, b3⟩ := this
          rw [if_neg qb, if_pos rfl, if_neg]
          rintro ⟨hn, -⟩
          have := hn r hr j b1 h0 (by omega)
          subst this
          unfold zpr at b2
          rw [q, decide_eq_false (show ¬ s < s by omega), decide_eq_false (show ¬ r < r by omega)] at b2
          simp at b2
      · rw [if_neg (fun h => q (znI (by have := (zhm_e N O hr).2; omega) (by omega) h))]
        exact next (Or.inr q)
set_option maxHeartbeats 4000000 in
theorem p_coins28 {nb nk ns nr nh b a sp dy : Nat} {C : Nat → Int32} {I : zTI} {J : zTJ} {x : Int32} {d : Nat → Nat} (G : zGood nb nk ns nr nh C (I 10)) (hb : b < nb) (hsp : sp < ns) (hdy : dy ≤ 9999) (edy : I 10 5 = nI dy) (A : zadm (I 10) nk nr b a sp x d) (h12 : ∀ r, r < nr → I 12 r = nI (d r) - 1) :
    ∀ (m s : Nat), s + m = sp → ∀ (set : Int32), zIv (I 10) nk nr b d s 0 set → qm_coinsOf_28 (nI b) (nI sp) set (nI (zsN (fun r => zwi (I 10) r (d r - 1)) (zpr (I 10) d s 0) nr)) (nI s) (nI 0) I J = some (some (.int (if zNdu nr d ∧ (∀ s', s' < sp → s ≤ s' → zpas C (I 10) dy (I 0 23) nk nr b d s') then nI (zcoi (I 10) nr d) else -1)), (zSM, I, J)) := by
  obtain ⟨⟨n0, n1, n2, n3, n4⟩, ⟨s0, s1, s2, s3, s4⟩, -, -, -, -, hT, -⟩ := id G.1
  obtain ⟨g2, g3⟩ := G.wb.1 b hb
  intro m
  induction m with
  | zero =>
    intro s es set V
    have es' : s = sp := by omega
    subst es'
    refine p_c28r G hb (by omega) A h12 (fun set V => ?_) nr 0 set (by omega) V
    obtain ⟨hset, hpd, hl, ht⟩ := V
    rw [t_qm_coinsOf_28, s3, if_neg (fun q => by have := (nI_ltI (by omega) (by omega)).mp q; omega), if_neg (fun q => by have := (nI_ltI (by omega) (by omega)).mp q; omega), nI_1, t_qm_coinsOf_19, if_pos (nI_lt (by omega) (by omega))]
    have all : ∀ j, j < nr → zpr (I 10) d s nr j = !decide (d j = 0) := fun j hj => by
      unfold zpr
      by_cases h0 : d j = 0
      · rw [decide_eq_true h0]; rfl
      · have := (zbk A hj h0).2.2.2.1
        rw [decide_eq_false h0, decide_eq_true hj]
        by_cases q : zhm (I 10) j < s
        · rw [decide_eq_true q]; rfl
        · rw [decide_eq_true (show zhm (I 10) j = s by omega)]
          simp
    rw [if_pos, zsN_congr nr (q := fun r => !decide (d r = 0)) all]
    · rfl
    · refine ⟨fun i hi j hj h0 e => ?_, fun s' h1 h2 => absurd h1 (by omega)⟩
      have h0j : d j ≠ 0 := by rw [← e]; exact h0
      exact hpd i j hi hj (by rw [all i hi, decide_eq_false h0]; rfl) (by rw [all j hj, decide_eq_false h0j]; rfl) e
  | succ m ihm =>
    intro s es set V
    refine p_c28r G hb (by omega) A h12 (fun set V => ?_) nr 0 set (by omega) V
    have pq : ∀ j, j < nr → zpr (I 10) d s nr j = (!decide (d j = 0) && decide (zhm (I 10) j ≤ s)) := fun j hj => by
      unfold zpr
      rw [decide_eq_true hj, Bool.and_true]
      congr 1
      by_cases q : zhm (I 10) j < s
      · rw [decide_eq_true q, decide_eq_true (show zhm (I 10) j ≤ s by omega)]; rfl
      · rw [decide_eq_false q, Bool.false_or]
        by_cases q2 : zhm (I 10) j = s
        · rw [decide_eq_true q2, decide_eq_true (show zhm (I 10) j ≤ s by omega)]
        · rw [decide_eq_false q2, decide_eq_false (show ¬ zhm (I 10) j ≤ s by omega)]
    have pq1 : ∀ j, j < nr → zpr (I 10) d (s + 1) 0 j = zpr (I 10) d s nr j := fun j hj => by
      rw [pq j hj]
      unfold zpr
      rw [decide_eq_false (show ¬ j < 0 by omega), Bool.and_false, Bool.or_false]
      congr 1
      by_cases q : zhm (I 10) j ≤ s
      · rw [decide_eq_true q, decide_eq_true (show zhm (I 10) j < s + 1 by omega)]
      · rw [decide_eq_false q, decide_eq_false (show ¬ zhm (I 10) j < s + 1 by omega)]
    have eL : zload (I 10) nk b set = zLd (I 10) nk nr b d s := by
      rw [V.2.2.1]
      exact zsum_congr nr (fun j hj => ⟨pq j hj, fun _ => rfl⟩)
    have eT : ztilt (I 10) nk b set = zTd (I 10) nk nr b d s := by
      rw [V.2.2.2]
      exact zsum_congr nr (fun j hj => ⟨pq j hj, fun _ => rfl⟩)
    obtain ⟨k, g1, g4, en, ej⟩ := hT (s + 1) (by omega)
    rw [t_qm_coinsOf_28, s3, if_neg (fun q => by have := (nI_ltI (by omega) (by omega)).mp q; omega), if_pos (nI_lt (by omega) (by omega)), nI_1, p_passesBy (s := s + 1) (d := dy) (n := k) (by omega) (by omega) edy g1 g4 en (by omega) n1 s1 (fun e => g2 (by rw [e]; decide)) (fun e => g3 (by rw [e]; decide)), zkI_s]
    have ez : I 10 (104 + 5 * (s + 1) + 1 + min (dy / 90 % 4) (k - 1)) = zde C dy (s + 1) := by
      unfold zde
      rw [ej _ (by omega)]
    have eD : zdrB (I 10) nk b set = zdr (zLd (I 10) nk nr b d s) (zTd (I 10) nk nr b d s) (I 10 (6 + 7 * b + 2)) (I 10 (6 + 7 * b + 3)) := by
      unfold zdrB
      rw [eL, eT]
    rw [ez, eD]
    by_cases qp : zde C dy (s + 1) + I 0 23 < zdr (zLd (I 10) nk nr b d s) (zTd (I 10) nk nr b d s) (I 10 (6 + 7 * b + 2)) (I 10 (6 + 7 * b + 3))
    · rw [if_pos qp, if_pos rfl, if_neg]
      rintro ⟨-, hh⟩
      exact hh s (by omega) (Nat.le_refl s) qp
    · rw [if_neg qp, if_neg z10, t_qm_coinsOf_19, if_neg (fun q => by have := (nI_ltI (by omega) (by omega)).mp q; omega)]
      have := ihm (s + 1) (by omega) set (zIv_c V pq1)
      rw [zsN_congr nr (q := zpr (I 10) d s nr) pq1] at this
      rw [show qm_coinsOf_28 (nI b) (nI sp) set (nI (zsN (fun r => zwi (I 10) r (d r - 1)) (zpr (I 10) d s nr) nr)) (nI (s + 1)) 0 I J = _ from this]
      have iff : (zNdu nr d ∧ (∀ s', s' < sp → s + 1 ≤ s' → zpas C (I 10) dy (I 0 23) nk nr b d s')) ↔ (zNdu nr d ∧ (∀ s', s' < sp → s ≤ s' → zpas C (I 10) dy (I 0 23) nk nr b d s')) := by
        constructor
        · rintro ⟨a1, a2⟩
          refine ⟨a1, fun s' h1 h2 => ?_⟩
          by_cases q : s' = s
          · subst q
            exact qp
          · exact a2 s' h1 (by omega)
        · rintro ⟨a1, a2⟩
          exact ⟨a1, fun s' h1 h2 => a2 s' h1 (by omega)⟩
      simp only [iff]
theorem p_coinsOf {nb nk ns nr nh b a sp dy : Nat} {C : Nat → Int32} {I : zTI} {J : zTJ} {x : Int32} {d : Nat → Nat} (G : zGood nb nk ns nr nh C (I 10)) (hb : b < nb) (ea : I 10 (6 + 7 * b + 5) = nI a) (has : a ≤ sp) (hsp : sp < ns) (hdy : dy ≤ 9999) (edy : I 10 5 = nI dy) (A : zadm (I 10) nk nr b a sp x d) (h12 : ∀ r, r < nr → I 12 r = nI (d r) - 1) : qm_coinsOf (nI b) (nI sp) I J = some (some (.int (if zNdu nr d ∧ (∀ s', s' < sp → a ≤ s' → zpas C (I 10) dy (I 0 23) nk nr b d s') then nI (zcoi (I 10) nr d) else -1)), (zSM, I, J)) := by
  obtain ⟨⟨n0, n1, n2, n3, n4⟩, ⟨s0, s1, s2, s3, s4⟩, -⟩ := id G.1
  have no : ∀ j, j < nr → zpr (I 10) d a 0 j = false := fun j hj => by
    unfold zpr
    by_cases h0 : d j = 0
    · rw [decide_eq_true h0]; rfl
    · have := (zbk A hj h0).2.2.1
      rw [decide_eq_false (show ¬ zhm (I 10) j < a by omega), decide_eq_false (show ¬ j < 0 by omega)]
      simp
  rw [t_qm_coinsOf, p_aboardOf n1 s1, zkI_s, pst (by omega), zkI_s, ea, t_qm_coinsOf_19, if_neg (fun q => by have := (nI_ltI (by omega) (by omega)).mp q; omega)]
  have := p_coins28 (J := J) G hb hsp hdy edy A h12 (sp - a) a (by omega) (zset (zab (I 10) b) nk) ⟨fun k hk => by
    rw [bt_all n1 _ hk]
    exact ⟨fun h => ⟨h, fun ⟨j, b1, b2, _⟩ => by rw [no j b1] at b2; cases b2⟩, fun h => h.1⟩, fun i j hi hj a1 => absurd a1 (by rw [no i hi]; decide), (zsum_none nr no).symm, (zsum_none nr no).symm⟩
  rw [zsN_congr nr (q := fun _ => false) no, zsN_zero] at this
  exact this
