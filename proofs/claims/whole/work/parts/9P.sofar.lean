/-! ===== a river: what is read so far ===== -/
/-- what is not read yet is 0 -/
def zZr (nr : Nat) (C : Nat → Int32) : Prop := (∀ i, i < 23 → C i = 0) ∧ (∀ i, 35 ≤ i → i < 47 → C i = 0) ∧ (∀ i, 59 ≤ i → i < 83 → C i = 0) ∧ (∀ i, 171 + 12 * nr ≤ i → i < 243 → C i = 0)
/-- a barge, a book, a stop, a reader, a hole, in both -/
def zIb (C R : Nat → Int32) (b : Nat) : Prop := ∃ v0 v1 v2 v3, (1 ≤ v0 ∧ v0 ≤ 8) ∧ v1 ≤ 9999 ∧ (1 ≤ v2 ∧ v2 ≤ 99) ∧ (1 ≤ v3 ∧ v3 ≤ 999) ∧ C (89 + b) = nI v0 ∧ C (91 + b) = nI v1 ∧ C (93 + b) = nI v2 ∧ C (95 + b) = nI v3 ∧ R (6 + 7 * b + 0) = nI v0 ∧ R (6 + 7 * b + 1) = nI v1 ∧ R (6 + 7 * b + 2) = nI v2 ∧ R (6 + 7 * b + 3) = nI v3 ∧ R (6 + 7 * b + 4) = 0 ∧ R (6 + 7 * b + 5) = 0 ∧ R (6 + 7 * b + 6) = 0
def zIk (nb : Nat) (C R : Nat → Int32) (k : Nat) : Prop := ∃ v0 v1 vb v3, (1 ≤ v0 ∧ v0 ≤ 99) ∧ v1 ≤ 99 ∧ vb < nb ∧ v3 ≤ 7 ∧ nI v3 < R (6 + 7 * vb + 0) ∧ C (97 + k) = nI v0 ∧ C (109 + k) = nI v1 ∧ C (47 + k) = 100 + nI vb ∧ C (23 + k) = nI v3 ∧ R (20 + 7 * k + 0) = nI v0 ∧ R (20 + 7 * k + 1) = nI v1 ∧ R (20 + 7 * k + 2) = 0 ∧ R (20 + 7 * k + 3) = nI v3 ∧ R (20 + 7 * k + 4) = 100 + nI vb ∧ R (20 + 7 * k + 5) = 0 ∧ R (20 + 7 * k + 6) = -1
def zIs (C R : Nat → Int32) (s : Nat) : Prop := ∃ n, 1 ≤ n ∧ n ≤ 4 ∧ R (104 + 5 * s) = nI n ∧ (∀ j, j < 4 → C (121 + 4 * s + j) = R (104 + 5 * s + 1 + min j (n - 1))) ∧ ∀ i, i < n → ∃ d, 1 ≤ d ∧ d ≤ 999 ∧ R (104 + 5 * s + 1 + i) = nI d
def zIr (ns : Nat) (C R : Nat → Int32) (r : Nat) : Prop := ∃ v0 v1 v2, v0 < ns ∧ v1 ≤ 9 ∧ (1 ≤ v2 ∧ v2 ≤ 99) ∧ C (153 + r) = nI v0 ∧ C (159 + r) = nI v1 ∧ C (165 + r) = nI v2 ∧ R (144 + 5 * r + 0) = nI v0 ∧ R (144 + 5 * r + 1) = nI v1 ∧ R (144 + 5 * r + 2) = nI v2 ∧ R (144 + 5 * r + 3) = -1 ∧ R (144 + 5 * r + 4) = 0 ∧ ∀ k, k < 12 → ∃ d, d ≤ 99 ∧ C (171 + (12 * r + k)) = nI d ∧ R (174 + 12 * r + k) = nI d
def zIh (nb : Nat) (C R : Nat → Int32) (h : Nat) : Prop := ∃ v0 v1, v0 < nb ∧ (1 ≤ v1 ∧ v1 ≤ 99) ∧ C (243 + h) = nI v0 ∧ C (247 + h) = nI v1 ∧ R (246 + 3 * h + 0) = nI v0 ∧ R (246 + 3 * h + 1) = nI v1 ∧ R (246 + 3 * h + 2) = 0
def zRv (nb nk ns nr nh : Nat) (C R : Nat → Int32) : Prop := zNs nb nk ns nr nh ∧ (R 0 = nI nb ∧ R 1 = nI nk ∧ R 2 = nI ns ∧ R 3 = nI nr ∧ R 4 = nI nh) ∧ (C 84 = nI nb ∧ C 85 = nI nk ∧ C 86 = nI ns ∧ C 87 = nI nr ∧ C 88 = nI nh) ∧ R 5 = 0 ∧ (∀ b, b < nb → zIb C R b) ∧ (∀ k, k < nk → zIk nb C R k) ∧ (∀ s, s < ns → zIs C R s) ∧ (∀ r, r < nr → zIr ns C R r) ∧ (∀ h, h < nh → zIh nb C R h) ∧ zZr nr C ∧ (nb = 0 → nk = 0 ∧ ns = 0 ∧ nr = 0 ∧ nh = 0)
theorem zIb_c {C R C' R' : Nat → Int32} {b : Nat} (h : zIb C R b) (hC : ∀ i, i = 89 + b ∨ i = 91 + b ∨ i = 93 + b ∨ i = 95 + b → C' i = C i) (hR : ∀ j, 6 + 7 * b ≤ j ∧ j < 6 + 7 * b + 7 → R' j = R j) : zIb C' R' b := by
  obtain ⟨v0, v1, v2, v3, h0, h1, h2, h3, c0, c1, c2, c3, r0, r1, r2, r3, r4, r5, r6⟩ := h
  exact ⟨v0, v1, v2, v3, h0, h1, h2, h3, (hC _ (by omega)).trans c0, (hC _ (by omega)).trans c1, (hC _ (by omega)).trans c2, (hC _ (by omega)).trans c3, (hR _ (by omega)).trans r0, (hR _ (by omega)).trans r1, (hR _ (by omega)).trans r2, (hR _ (by omega)).trans r3, (hR _ (by omega)).trans r4, (hR _ (by omega)).trans r5, (hR _ (by omega)).trans r6⟩
theorem zIk_c {nb nb' : Nat} {C R C' R' : Nat → Int32} {k : Nat} (h : zIk nb C R k) (hb : nb ≤ nb') (hC : ∀ i, i = 97 + k ∨ i = 109 + k ∨ i = 47 + k ∨ i = 23 + k → C' i = C i) (hR : ∀ j, 20 + 7 * k ≤ j ∧ j < 20 + 7 * k + 7 → R' j = R j) (hB : ∀ b, b < nb → R' (6 + 7 * b + 0) = R (6 + 7 * b + 0)) : zIk nb' C' R' k := by
  obtain ⟨v0, v1, vb, v3, h0, h1, h2, h3, h4, c0, c1, c2, c3, r0, r1, r2, r3, r4, r5, r6⟩ := h
  exact ⟨v0, v1, vb, v3, h0, h1, by omega, h3, by rw [hB vb h2]; exact h4, (hC _ (by omega)).trans c0, (hC _ (by omega)).trans c1, (hC _ (by omega)).trans c2, (hC _ (by omega)).trans c3, (hR _ (by omega)).trans r0, (hR _ (by omega)).trans r1, (hR _ (by omega)).trans r2, (hR _ (by omega)).trans r3, (hR _ (by omega)).trans r4, (hR _ (by omega)).trans r5, (hR _ (by omega)).trans r6⟩
theorem zIs_c {C R C' R' : Nat → Int32} {s : Nat} (h : zIs C R s) (hC : ∀ i, 121 + 4 * s ≤ i ∧ i < 121 + 4 * s + 4 → C' i = C i) (hR : ∀ j, 104 + 5 * s ≤ j ∧ j < 104 + 5 * s + 5 → R' j = R j) : zIs C' R' s := by
  obtain ⟨n, h0, h1, h2, h3, h4⟩ := h
  refine ⟨n, h0, h1, (hR _ (by omega)).trans h2, fun j hj => ?_, fun i hi => ?_⟩
  · rw [hC _ (by omega), hR _ (by omega)]
    exact h3 j hj
  · rw [hR _ (by omega)]
    exact h4 i hi
theorem zIr_c {ns ns' : Nat} {C R C' R' : Nat → Int32} {r : Nat} (h : zIr ns C R r) (hs : ns ≤ ns') (hC : ∀ i, i = 153 + r ∨ i = 159 + r ∨ i = 165 + r ∨ (171 + 12 * r ≤ i ∧ i < 171 + 12 * r + 12) → C' i = C i) (hR : ∀ j, (144 + 5 * r ≤ j ∧ j < 144 + 5 * r + 5) ∨ (174 + 12 * r ≤ j ∧ j < 174 + 12 * r + 12) → R' j = R j) : zIr ns' C' R' r := by
  obtain ⟨v0, v1, v2, h0, h1, h2, c0, c1, c2, r0, r1, r2, r3, r4, h3⟩ := h
  refine ⟨v0, v1, v2, by omega, h1, h2, (hC _ (by omega)).trans c0, (hC _ (by omega)).trans c1, (hC _ (by omega)).trans c2, (hR _ (by omega)).trans r0, (hR _ (by omega)).trans r1, (hR _ (by omega)).trans r2, (hR _ (by omega)).trans r3, (hR _ (by omega)).trans r4, fun k hk => ?_⟩
  rw [hC _ (by omega), hR _ (by omega)]
  exact h3 k hk
theorem zIh_c {nb nb' : Nat} {C R C' R' : Nat → Int32} {h : Nat} (H : zIh nb C R h) (hb : nb ≤ nb') (hC : ∀ i, i = 243 + h ∨ i = 247 + h → C' i = C i) (hR : ∀ j, 246 + 3 * h ≤ j ∧ j < 246 + 3 * h + 3 → R' j = R j) : zIh nb' C' R' h := by
  obtain ⟨v0, v1, h0, h1, c0, c1, r0, r1, r2⟩ := H
  exact ⟨v0, v1, by omega, h1, (hC _ (by omega)).trans c0, (hC _ (by omega)).trans c1, (hR _ (by omega)).trans r0, (hR _ (by omega)).trans r1, (hR _ (by omega)).trans r2⟩
theorem zZr_c {nr nr' : Nat} {C C' : Nat → Int32} (h : zZr nr C) (hr : nr ≤ nr') (hC : ∀ i, i < 23 ∨ (35 ≤ i ∧ i < 47) ∨ (59 ≤ i ∧ i < 83) ∨ (171 + 12 * nr' ≤ i ∧ i < 243) → C' i = C i) : zZr nr' C' := by
  obtain ⟨h0, h1, h2, h3⟩ := h
  exact ⟨fun i hi => (hC i (by omega)).trans (h0 i hi), fun i a b => (hC i (by omega)).trans (h1 i a b), fun i a b => (hC i (by omega)).trans (h2 i a b), fun i a b => (hC i (by omega)).trans (h3 i (by omega) b)⟩
