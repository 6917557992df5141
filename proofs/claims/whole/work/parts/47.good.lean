/-! ===== what stays true of a river ===== -/
def zNs (nb nk ns nr nh : Nat) : Prop := nb ≤ 2 ∧ nk ≤ 12 ∧ ns ≤ 8 ∧ nr ≤ 6 ∧ nh ≤ 4
/-- where a book is -/
def zWh (nb ns nr : Nat) (v : Int32) : Prop := (∃ s, s < ns ∧ v = nI s) ∨ (∃ b, b < nb ∧ v = 100 + nI b) ∨ (∃ r, r < nr ∧ v = nI (200 + r)) ∨ v = nI 300
/-- what a cell may be -/
def zBd (nb nk ns nr nh j : Nat) (v : Int32) : Prop :=
  (j = 5 → ∃ d, d ≤ 9999 ∧ v = nI d) ∧
  (∀ b, b < nb → (j = 6 + 7 * b + 0 → ∃ d, 1 ≤ d ∧ d ≤ 8 ∧ v = nI d) ∧ (j = 6 + 7 * b + 1 → ∃ d, d ≤ 9999 ∧ v = nI d) ∧ (j = 6 + 7 * b + 2 → ∃ d, 1 ≤ d ∧ d ≤ 99 ∧ v = nI d) ∧ (j = 6 + 7 * b + 3 → ∃ d, 1 ≤ d ∧ d ≤ 999 ∧ v = nI d) ∧ (j = 6 + 7 * b + 4 → ∃ d, d ≤ 9999 ∧ v = nI d) ∧ (j = 6 + 7 * b + 5 → ∃ d, d < ns ∧ v = nI d)) ∧
  (∀ k, k < nk → (j = 20 + 7 * k + 0 → ∃ d, 1 ≤ d ∧ d ≤ 99 ∧ v = nI d) ∧ (j = 20 + 7 * k + 1 → ∃ d, d ≤ 99 ∧ v = nI d) ∧ (j = 20 + 7 * k + 2 → ∃ d, d ≤ 9 ∧ v = nI d) ∧ (j = 20 + 7 * k + 3 → ∃ d, d ≤ 7 ∧ v = nI d) ∧ (j = 20 + 7 * k + 4 → zWh nb ns nr v)) ∧
  (∀ r, r < nr → (j = 144 + 5 * r + 0 → ∃ d, d < ns ∧ v = nI d) ∧ (j = 144 + 5 * r + 1 → ∃ d, d ≤ 9 ∧ v = nI d) ∧ (j = 144 + 5 * r + 2 → ∃ d, 1 ≤ d ∧ d ≤ 99 ∧ v = nI d) ∧ (j = 144 + 5 * r + 3 → v = -1 ∨ ∃ d, d < nk ∧ v = nI d) ∧ ∀ k, k < 12 → j = 174 + 12 * r + k → ∃ d, d ≤ 99 ∧ v = nI d) ∧
  (∀ h, h < nh → (j = 246 + 3 * h + 0 → ∃ d, d < nb ∧ v = nI d) ∧ (j = 246 + 3 * h + 1 → ∃ d, 1 ≤ d ∧ d ≤ 99 ∧ v = nI d) ∧ (j = 246 + 3 * h + 2 → v = 0 ∨ v = 1))
def zOK (nb nk ns nr nh : Nat) (S : Nat → Int32) : Prop := ∀ j, j < 258 → zBd nb nk ns nr nh j (S j)
def zAb (nb nk : Nat) (S : Nat → Int32) : Prop := ∀ b k, b < nb → k < nk → S (20 + 7 * k + 4) = 100 + nI b → S (20 + 7 * k + 3) < S (6 + 7 * b + 0)
def zDp (ns : Nat) (S : Nat → Int32) : Prop := ∀ s n, s < ns → n ≤ 4 → S (104 + 5 * s) = nI n → ∀ i, i < n → ∃ d, 1 ≤ d ∧ d ≤ 999 ∧ S (104 + 5 * s + 1 + i) = nI d
def zGood (nb nk ns nr nh : Nat) (C S : Nat → Int32) : Prop := zWR nb nk ns nr nh C S ∧ zOK nb nk ns nr nh S ∧ zAb nb nk S ∧ zDp ns S ∧ (nb = 0 ↔ ns = 0)
theorem zWR.ns {nb nk ns nr nh : Nat} {C S : Nat → Int32} (W : zWR nb nk ns nr nh C S) : zNs nb nk ns nr nh := W.1
theorem zOK_upd {nb nk ns nr nh : Nat} {S : Nat → Int32} (h : zOK nb nk ns nr nh S) {j : Nat} {v : Int32} (hv : zBd nb nk ns nr nh j v) : zOK nb nk ns nr nh (upd S j v) := fun x hx => by
  rw [u_if]
  by_cases e : x = j
  · subst e
    rw [if_pos rfl]
    exact hv
  · rw [if_neg e]
    exact h x hx

theorem zBd_day {nb nk ns nr nh : Nat} (N : zNs nb nk ns nr nh) {v : Int32} (H : ∃ d, d ≤ 9999 ∧ v = nI d) : zBd nb nk ns nr nh (5) v := by
  obtain ⟨n0, n1, n2, n3, n4⟩ := N
  exact ⟨fun e => by first | omega | exact H, fun b' hb' => ⟨fun e => by first | omega | exact H, fun e => by first | omega | exact H, fun e => by first | omega | exact H, fun e => by first | omega | exact H, fun e => by first | omega | exact H, fun e => by first | omega | exact H⟩, fun k' hk' => ⟨fun e => by first | omega | exact H, fun e => by first | omega | exact H, fun e => by first | omega | exact H, fun e => by first | omega | exact H, fun e => by first | omega | exact H⟩, fun r' hr' => ⟨fun e => by first | omega | exact H, fun e => by first | omega | exact H, fun e => by first | omega | exact H, fun e => by first | omega | exact H, fun k'' hk'' => fun e => by first | omega | exact H⟩, fun h' hh' => ⟨fun e => by first | omega | exact H, fun e => by first | omega | exact H, fun e => by first | omega | exact H⟩⟩
theorem zBd_water {nb nk ns nr nh : Nat} (N : zNs nb nk ns nr nh) {b : Nat} (hx : b < nb) {v : Int32} (H : ∃ d, d ≤ 9999 ∧ v = nI d) : zBd nb nk ns nr nh (6 + 7 * b + 4) v := by
  obtain ⟨n0, n1, n2, n3, n4⟩ := N
  exact ⟨fun e => by first | omega | exact H, fun b' hb' => ⟨fun e => by first | omega | exact H, fun e => by first | omega | exact H, fun e => by first | omega | exact H, fun e => by first | omega | exact H, fun e => by first | omega | exact H, fun e => by first | omega | exact H⟩, fun k' hk' => ⟨fun e => by first | omega | exact H, fun e => by first | omega | exact H, fun e => by first | omega | exact H, fun e => by first | omega | exact H, fun e => by first | omega | exact H⟩, fun r' hr' => ⟨fun e => by first | omega | exact H, fun e => by first | omega | exact H, fun e => by first | omega | exact H, fun e => by first | omega | exact H, fun k'' hk'' => fun e => by first | omega | exact H⟩, fun h' hh' => ⟨fun e => by first | omega | exact H, fun e => by first | omega | exact H, fun e => by first | omega | exact H⟩⟩
theorem zBd_at {nb nk ns nr nh : Nat} (N : zNs nb nk ns nr nh) {b : Nat} (hx : b < nb) {v : Int32} (H : ∃ d, d < ns ∧ v = nI d) : zBd nb nk ns nr nh (6 + 7 * b + 5) v := by
  obtain ⟨n0, n1, n2, n3, n4⟩ := N
  exact ⟨fun e => by first | omega | exact H, fun b' hb' => ⟨fun e => by first | omega | exact H, fun e => by first | omega | exact H, fun e => by first | omega | exact H, fun e => by first | omega | exact H, fun e => by first | omega | exact H, fun e => by first | omega | exact H⟩, fun k' hk' => ⟨fun e => by first | omega | exact H, fun e => by first | omega | exact H, fun e => by first | omega | exact H, fun e => by first | omega | exact H, fun e => by first | omega | exact H⟩, fun r' hr' => ⟨fun e => by first | omega | exact H, fun e => by first | omega | exact H, fun e => by first | omega | exact H, fun e => by first | omega | exact H, fun k'' hk'' => fun e => by first | omega | exact H⟩, fun h' hh' => ⟨fun e => by first | omega | exact H, fun e => by first | omega | exact H, fun e => by first | omega | exact H⟩⟩
theorem zBd_earned {nb nk ns nr nh : Nat} (N : zNs nb nk ns nr nh) {b : Nat} (hx : b < nb) {v : Int32} (H : True) : zBd nb nk ns nr nh (6 + 7 * b + 6) v := by
  obtain ⟨n0, n1, n2, n3, n4⟩ := N
  exact ⟨fun e => by first | omega | exact H, fun b' hb' => ⟨fun e => by first | omega | exact H, fun e => by first | omega | exact H, fun e => by first | omega | exact H, fun e => by first | omega | exact H, fun e => by first | omega | exact H, fun e => by first | omega | exact H⟩, fun k' hk' => ⟨fun e => by first | omega | exact H, fun e => by first | omega | exact H, fun e => by first | omega | exact H, fun e => by first | omega | exact H, fun e => by first | omega | exact H⟩, fun r' hr' => ⟨fun e => by first | omega | exact H, fun e => by first | omega | exact H, fun e => by first | omega | exact H, fun e => by first | omega | exact H, fun k'' hk'' => fun e => by first | omega | exact H⟩, fun h' hh' => ⟨fun e => by first | omega | exact H, fun e => by first | omega | exact H, fun e => by first | omega | exact H⟩⟩
theorem zBd_weight {nb nk ns nr nh : Nat} (N : zNs nb nk ns nr nh) {k : Nat} (hx : k < nk) {v : Int32} (H : ∃ d, 1 ≤ d ∧ d ≤ 99 ∧ v = nI d) : zBd nb nk ns nr nh (20 + 7 * k + 0) v := by
  obtain ⟨n0, n1, n2, n3, n4⟩ := N
  exact ⟨fun e => by first | omega | exact H, fun b' hb' => ⟨fun e => by first | omega | exact H, fun e => by first | omega | exact H, fun e => by first | omega | exact H, fun e => by first | omega | exact H, fun e => by first | omega | exact H, fun e => by first | omega | exact H⟩, fun k' hk' => ⟨fun e => by first | omega | exact H, fun e => by first | omega | exact H, fun e => by first | omega | exact H, fun e => by first | omega | exact H, fun e => by first | omega | exact H⟩, fun r' hr' => ⟨fun e => by first | omega | exact H, fun e => by first | omega | exact H, fun e => by first | omega | exact H, fun e => by first | omega | exact H, fun k'' hk'' => fun e => by first | omega | exact H⟩, fun h' hh' => ⟨fun e => by first | omega | exact H, fun e => by first | omega | exact H, fun e => by first | omega | exact H⟩⟩
theorem zBd_damp {nb nk ns nr nh : Nat} (N : zNs nb nk ns nr nh) {k : Nat} (hx : k < nk) {v : Int32} (H : ∃ d, d ≤ 9 ∧ v = nI d) : zBd nb nk ns nr nh (20 + 7 * k + 2) v := by
  obtain ⟨n0, n1, n2, n3, n4⟩ := N
  exact ⟨fun e => by first | omega | exact H, fun b' hb' => ⟨fun e => by first | omega | exact H, fun e => by first | omega | exact H, fun e => by first | omega | exact H, fun e => by first | omega | exact H, fun e => by first | omega | exact H, fun e => by first | omega | exact H⟩, fun k' hk' => ⟨fun e => by first | omega | exact H, fun e => by first | omega | exact H, fun e => by first | omega | exact H, fun e => by first | omega | exact H, fun e => by first | omega | exact H⟩, fun r' hr' => ⟨fun e => by first | omega | exact H, fun e => by first | omega | exact H, fun e => by first | omega | exact H, fun e => by first | omega | exact H, fun k'' hk'' => fun e => by first | omega | exact H⟩, fun h' hh' => ⟨fun e => by first | omega | exact H, fun e => by first | omega | exact H, fun e => by first | omega | exact H⟩⟩
theorem zBd_shelf {nb nk ns nr nh : Nat} (N : zNs nb nk ns nr nh) {k : Nat} (hx : k < nk) {v : Int32} (H : ∃ d, d ≤ 7 ∧ v = nI d) : zBd nb nk ns nr nh (20 + 7 * k + 3) v := by
  obtain ⟨n0, n1, n2, n3, n4⟩ := N
  exact ⟨fun e => by first | omega | exact H, fun b' hb' => ⟨fun e => by first | omega | exact H, fun e => by first | omega | exact H, fun e => by first | omega | exact H, fun e => by first | omega | exact H, fun e => by first | omega | exact H, fun e => by first | omega | exact H⟩, fun k' hk' => ⟨fun e => by first | omega | exact H, fun e => by first | omega | exact H, fun e => by first | omega | exact H, fun e => by first | omega | exact H, fun e => by first | omega | exact H⟩, fun r' hr' => ⟨fun e => by first | omega | exact H, fun e => by first | omega | exact H, fun e => by first | omega | exact H, fun e => by first | omega | exact H, fun k'' hk'' => fun e => by first | omega | exact H⟩, fun h' hh' => ⟨fun e => by first | omega | exact H, fun e => by first | omega | exact H, fun e => by first | omega | exact H⟩⟩
theorem zBd_where {nb nk ns nr nh : Nat} (N : zNs nb nk ns nr nh) {k : Nat} (hx : k < nk) {v : Int32} (H : zWh nb ns nr v) : zBd nb nk ns nr nh (20 + 7 * k + 4) v := by
  obtain ⟨n0, n1, n2, n3, n4⟩ := N
  exact ⟨fun e => by first | omega | exact H, fun b' hb' => ⟨fun e => by first | omega | exact H, fun e => by first | omega | exact H, fun e => by first | omega | exact H, fun e => by first | omega | exact H, fun e => by first | omega | exact H, fun e => by first | omega | exact H⟩, fun k' hk' => ⟨fun e => by first | omega | exact H, fun e => by first | omega | exact H, fun e => by first | omega | exact H, fun e => by first | omega | exact H, fun e => by first | omega | exact H⟩, fun r' hr' => ⟨fun e => by first | omega | exact H, fun e => by first | omega | exact H, fun e => by first | omega | exact H, fun e => by first | omega | exact H, fun k'' hk'' => fun e => by first | omega | exact H⟩, fun h' hh' => ⟨fun e => by first | omega | exact H, fun e => by first | omega | exact H, fun e => by first | omega | exact H⟩⟩
theorem zBd_loans {nb nk ns nr nh : Nat} (N : zNs nb nk ns nr nh) {k : Nat} (hx : k < nk) {v : Int32} (H : True) : zBd nb nk ns nr nh (20 + 7 * k + 5) v := by
  obtain ⟨n0, n1, n2, n3, n4⟩ := N
  exact ⟨fun e => by first | omega | exact H, fun b' hb' => ⟨fun e => by first | omega | exact H, fun e => by first | omega | exact H, fun e => by first | omega | exact H, fun e => by first | omega | exact H, fun e => by first | omega | exact H, fun e => by first | omega | exact H⟩, fun k' hk' => ⟨fun e => by first | omega | exact H, fun e => by first | omega | exact H, fun e => by first | omega | exact H, fun e => by first | omega | exact H, fun e => by first | omega | exact H⟩, fun r' hr' => ⟨fun e => by first | omega | exact H, fun e => by first | omega | exact H, fun e => by first | omega | exact H, fun e => by first | omega | exact H, fun k'' hk'' => fun e => by first | omega | exact H⟩, fun h' hh' => ⟨fun e => by first | omega | exact H, fun e => by first | omega | exact H, fun e => by first | omega | exact H⟩⟩
theorem zBd_due {nb nk ns nr nh : Nat} (N : zNs nb nk ns nr nh) {k : Nat} (hx : k < nk) {v : Int32} (H : True) : zBd nb nk ns nr nh (20 + 7 * k + 6) v := by
  obtain ⟨n0, n1, n2, n3, n4⟩ := N
  exact ⟨fun e => by first | omega | exact H, fun b' hb' => ⟨fun e => by first | omega | exact H, fun e => by first | omega | exact H, fun e => by first | omega | exact H, fun e => by first | omega | exact H, fun e => by first | omega | exact H, fun e => by first | omega | exact H⟩, fun k' hk' => ⟨fun e => by first | omega | exact H, fun e => by first | omega | exact H, fun e => by first | omega | exact H, fun e => by first | omega | exact H, fun e => by first | omega | exact H⟩, fun r' hr' => ⟨fun e => by first | omega | exact H, fun e => by first | omega | exact H, fun e => by first | omega | exact H, fun e => by first | omega | exact H, fun k'' hk'' => fun e => by first | omega | exact H⟩, fun h' hh' => ⟨fun e => by first | omega | exact H, fun e => by first | omega | exact H, fun e => by first | omega | exact H⟩⟩
theorem zBd_has {nb nk ns nr nh : Nat} (N : zNs nb nk ns nr nh) {r : Nat} (hx : r < nr) {v : Int32} (H : v = -1 ∨ ∃ d, d < nk ∧ v = nI d) : zBd nb nk ns nr nh (144 + 5 * r + 3) v := by
  obtain ⟨n0, n1, n2, n3, n4⟩ := N
  exact ⟨fun e => by first | omega | exact H, fun b' hb' => ⟨fun e => by first | omega | exact H, fun e => by first | omega | exact H, fun e => by first | omega | exact H, fun e => by first | omega | exact H, fun e => by first | omega | exact H, fun e => by first | omega | exact H⟩, fun k' hk' => ⟨fun e => by first | omega | exact H, fun e => by first | omega | exact H, fun e => by first | omega | exact H, fun e => by first | omega | exact H, fun e => by first | omega | exact H⟩, fun r' hr' => ⟨fun e => by first | omega | exact H, fun e => by first | omega | exact H, fun e => by first | omega | exact H, fun e => by first | omega | exact H, fun k'' hk'' => fun e => by first | omega | exact H⟩, fun h' hh' => ⟨fun e => by first | omega | exact H, fun e => by first | omega | exact H, fun e => by first | omega | exact H⟩⟩
theorem zBd_served {nb nk ns nr nh : Nat} (N : zNs nb nk ns nr nh) {r : Nat} (hx : r < nr) {v : Int32} (H : True) : zBd nb nk ns nr nh (144 + 5 * r + 4) v := by
  obtain ⟨n0, n1, n2, n3, n4⟩ := N
  exact ⟨fun e => by first | omega | exact H, fun b' hb' => ⟨fun e => by first | omega | exact H, fun e => by first | omega | exact H, fun e => by first | omega | exact H, fun e => by first | omega | exact H, fun e => by first | omega | exact H, fun e => by first | omega | exact H⟩, fun k' hk' => ⟨fun e => by first | omega | exact H, fun e => by first | omega | exact H, fun e => by first | omega | exact H, fun e => by first | omega | exact H, fun e => by first | omega | exact H⟩, fun r' hr' => ⟨fun e => by first | omega | exact H, fun e => by first | omega | exact H, fun e => by first | omega | exact H, fun e => by first | omega | exact H, fun k'' hk'' => fun e => by first | omega | exact H⟩, fun h' hh' => ⟨fun e => by first | omega | exact H, fun e => by first | omega | exact H, fun e => by first | omega | exact H⟩⟩
theorem zBd_stopped {nb nk ns nr nh : Nat} (N : zNs nb nk ns nr nh) {h : Nat} (hx : h < nh) {v : Int32} (H : v = 0 ∨ v = 1) : zBd nb nk ns nr nh (246 + 3 * h + 2) v := by
  obtain ⟨n0, n1, n2, n3, n4⟩ := N
  exact ⟨fun e => by first | omega | exact H, fun b' hb' => ⟨fun e => by first | omega | exact H, fun e => by first | omega | exact H, fun e => by first | omega | exact H, fun e => by first | omega | exact H, fun e => by first | omega | exact H, fun e => by first | omega | exact H⟩, fun k' hk' => ⟨fun e => by first | omega | exact H, fun e => by first | omega | exact H, fun e => by first | omega | exact H, fun e => by first | omega | exact H, fun e => by first | omega | exact H⟩, fun r' hr' => ⟨fun e => by first | omega | exact H, fun e => by first | omega | exact H, fun e => by first | omega | exact H, fun e => by first | omega | exact H, fun k'' hk'' => fun e => by first | omega | exact H⟩, fun h' hh' => ⟨fun e => by first | omega | exact H, fun e => by first | omega | exact H, fun e => by first | omega | exact H⟩⟩
theorem zk_g0 {nb nk ns nr nh : Nat} {S : Nat → Int32} (N : zNs nb nk ns nr nh) (G : zOK nb nk ns nr nh S) {b : Nat} (hx : b < nb) : ∃ d, 1 ≤ d ∧ d ≤ 8 ∧ S (6 + 7 * b + 0) = nI d := by
  obtain ⟨n0, n1, n2, n3, n4⟩ := N
  exact (((G (6 + 7 * b + 0) (by omega)).2.1 b hx).1) rfl
theorem zk_g1 {nb nk ns nr nh : Nat} {S : Nat → Int32} (N : zNs nb nk ns nr nh) (G : zOK nb nk ns nr nh S) {b : Nat} (hx : b < nb) : ∃ d, d ≤ 9999 ∧ S (6 + 7 * b + 1) = nI d := by
  obtain ⟨n0, n1, n2, n3, n4⟩ := N
  exact (((G (6 + 7 * b + 1) (by omega)).2.1 b hx).2.1) rfl
theorem zk_g2 {nb nk ns nr nh : Nat} {S : Nat → Int32} (N : zNs nb nk ns nr nh) (G : zOK nb nk ns nr nh S) {b : Nat} (hx : b < nb) : ∃ d, 1 ≤ d ∧ d ≤ 99 ∧ S (6 + 7 * b + 2) = nI d := by
  obtain ⟨n0, n1, n2, n3, n4⟩ := N
  exact (((G (6 + 7 * b + 2) (by omega)).2.1 b hx).2.2.1) rfl
theorem zk_g3 {nb nk ns nr nh : Nat} {S : Nat → Int32} (N : zNs nb nk ns nr nh) (G : zOK nb nk ns nr nh S) {b : Nat} (hx : b < nb) : ∃ d, 1 ≤ d ∧ d ≤ 999 ∧ S (6 + 7 * b + 3) = nI d := by
  obtain ⟨n0, n1, n2, n3, n4⟩ := N
  exact (((G (6 + 7 * b + 3) (by omega)).2.1 b hx).2.2.2.1) rfl
theorem zk_g4 {nb nk ns nr nh : Nat} {S : Nat → Int32} (N : zNs nb nk ns nr nh) (G : zOK nb nk ns nr nh S) {b : Nat} (hx : b < nb) : ∃ d, d ≤ 9999 ∧ S (6 + 7 * b + 4) = nI d := by
  obtain ⟨n0, n1, n2, n3, n4⟩ := N
  exact (((G (6 + 7 * b + 4) (by omega)).2.1 b hx).2.2.2.2.1) rfl
theorem zk_g5 {nb nk ns nr nh : Nat} {S : Nat → Int32} (N : zNs nb nk ns nr nh) (G : zOK nb nk ns nr nh S) {b : Nat} (hx : b < nb) : ∃ d, d < ns ∧ S (6 + 7 * b + 5) = nI d := by
  obtain ⟨n0, n1, n2, n3, n4⟩ := N
  exact (((G (6 + 7 * b + 5) (by omega)).2.1 b hx).2.2.2.2.2) rfl
theorem zk_b0 {nb nk ns nr nh : Nat} {S : Nat → Int32} (N : zNs nb nk ns nr nh) (G : zOK nb nk ns nr nh S) {k : Nat} (hx : k < nk) : ∃ d, 1 ≤ d ∧ d ≤ 99 ∧ S (20 + 7 * k + 0) = nI d := by
  obtain ⟨n0, n1, n2, n3, n4⟩ := N
  exact (((G (20 + 7 * k + 0) (by omega)).2.2.1 k hx).1) rfl
theorem zk_b1 {nb nk ns nr nh : Nat} {S : Nat → Int32} (N : zNs nb nk ns nr nh) (G : zOK nb nk ns nr nh S) {k : Nat} (hx : k < nk) : ∃ d, d ≤ 99 ∧ S (20 + 7 * k + 1) = nI d := by
  obtain ⟨n0, n1, n2, n3, n4⟩ := N
  exact (((G (20 + 7 * k + 1) (by omega)).2.2.1 k hx).2.1) rfl
theorem zk_b2 {nb nk ns nr nh : Nat} {S : Nat → Int32} (N : zNs nb nk ns nr nh) (G : zOK nb nk ns nr nh S) {k : Nat} (hx : k < nk) : ∃ d, d ≤ 9 ∧ S (20 + 7 * k + 2) = nI d := by
  obtain ⟨n0, n1, n2, n3, n4⟩ := N
  exact (((G (20 + 7 * k + 2) (by omega)).2.2.1 k hx).2.2.1) rfl
theorem zk_b3 {nb nk ns nr nh : Nat} {S : Nat → Int32} (N : zNs nb nk ns nr nh) (G : zOK nb nk ns nr nh S) {k : Nat} (hx : k < nk) : ∃ d, d ≤ 7 ∧ S (20 + 7 * k + 3) = nI d := by
  obtain ⟨n0, n1, n2, n3, n4⟩ := N
  exact (((G (20 + 7 * k + 3) (by omega)).2.2.1 k hx).2.2.2.1) rfl
theorem zk_b4 {nb nk ns nr nh : Nat} {S : Nat → Int32} (N : zNs nb nk ns nr nh) (G : zOK nb nk ns nr nh S) {k : Nat} (hx : k < nk) : zWh nb ns nr (S (20 + 7 * k + 4)) := by
  obtain ⟨n0, n1, n2, n3, n4⟩ := N
  exact (((G (20 + 7 * k + 4) (by omega)).2.2.1 k hx).2.2.2.2) rfl
theorem zk_r0 {nb nk ns nr nh : Nat} {S : Nat → Int32} (N : zNs nb nk ns nr nh) (G : zOK nb nk ns nr nh S) {r : Nat} (hx : r < nr) : ∃ d, d < ns ∧ S (144 + 5 * r + 0) = nI d := by
  obtain ⟨n0, n1, n2, n3, n4⟩ := N
  exact (((G (144 + 5 * r + 0) (by omega)).2.2.2.1 r hx).1) rfl
theorem zk_r1 {nb nk ns nr nh : Nat} {S : Nat → Int32} (N : zNs nb nk ns nr nh) (G : zOK nb nk ns nr nh S) {r : Nat} (hx : r < nr) : ∃ d, d ≤ 9 ∧ S (144 + 5 * r + 1) = nI d := by
  obtain ⟨n0, n1, n2, n3, n4⟩ := N
  exact (((G (144 + 5 * r + 1) (by omega)).2.2.2.1 r hx).2.1) rfl
theorem zk_r2 {nb nk ns nr nh : Nat} {S : Nat → Int32} (N : zNs nb nk ns nr nh) (G : zOK nb nk ns nr nh S) {r : Nat} (hx : r < nr) : ∃ d, 1 ≤ d ∧ d ≤ 99 ∧ S (144 + 5 * r + 2) = nI d := by
  obtain ⟨n0, n1, n2, n3, n4⟩ := N
  exact (((G (144 + 5 * r + 2) (by omega)).2.2.2.1 r hx).2.2.1) rfl
theorem zk_r3 {nb nk ns nr nh : Nat} {S : Nat → Int32} (N : zNs nb nk ns nr nh) (G : zOK nb nk ns nr nh S) {r : Nat} (hx : r < nr) : S (144 + 5 * r + 3) = -1 ∨ ∃ d, d < nk ∧ S (144 + 5 * r + 3) = nI d := by
  obtain ⟨n0, n1, n2, n3, n4⟩ := N
  exact (((G (144 + 5 * r + 3) (by omega)).2.2.2.1 r hx).2.2.2.1) rfl
theorem zk_h0 {nb nk ns nr nh : Nat} {S : Nat → Int32} (N : zNs nb nk ns nr nh) (G : zOK nb nk ns nr nh S) {h : Nat} (hx : h < nh) : ∃ d, d < nb ∧ S (246 + 3 * h + 0) = nI d := by
  obtain ⟨n0, n1, n2, n3, n4⟩ := N
  exact (((G (246 + 3 * h + 0) (by omega)).2.2.2.2 h hx).1) rfl
theorem zk_h1 {nb nk ns nr nh : Nat} {S : Nat → Int32} (N : zNs nb nk ns nr nh) (G : zOK nb nk ns nr nh S) {h : Nat} (hx : h < nh) : ∃ d, 1 ≤ d ∧ d ≤ 99 ∧ S (246 + 3 * h + 1) = nI d := by
  obtain ⟨n0, n1, n2, n3, n4⟩ := N
  exact (((G (246 + 3 * h + 1) (by omega)).2.2.2.2 h hx).2.1) rfl
theorem zk_h2 {nb nk ns nr nh : Nat} {S : Nat → Int32} (N : zNs nb nk ns nr nh) (G : zOK nb nk ns nr nh S) {h : Nat} (hx : h < nh) : S (246 + 3 * h + 2) = 0 ∨ S (246 + 3 * h + 2) = 1 := by
  obtain ⟨n0, n1, n2, n3, n4⟩ := N
  exact (((G (246 + 3 * h + 2) (by omega)).2.2.2.2 h hx).2.2) rfl
theorem zk_w {nb nk ns nr nh : Nat} {S : Nat → Int32} (N : zNs nb nk ns nr nh) (G : zOK nb nk ns nr nh S) {r k : Nat} (hr : r < nr) (hk : k < 12) : ∃ d, d ≤ 99 ∧ S (174 + 12 * r + k) = nI d := by
  obtain ⟨n0, n1, n2, n3, n4⟩ := N
  exact ((G (174 + 12 * r + k) (by omega)).2.2.2.1 r hr).2.2.2.2 k hk rfl
theorem zk_day {nb nk ns nr nh : Nat} {S : Nat → Int32} (G : zOK nb nk ns nr nh S) : ∃ d, d ≤ 9999 ∧ S 5 = nI d := (G 5 (by omega)).1 rfl
/-- which cells are the same -/
def zPr (nb nk nr nh i j : Nat) : Prop := (i = 0 ∧ j = 5) ∨
  (∃ b, b < nb ∧ ((i = 89 + b ∧ j = 6 + 7 * b + 0) ∨ (i = 91 + b ∧ j = 6 + 7 * b + 1) ∨ (i = 93 + b ∧ j = 6 + 7 * b + 2) ∨ (i = 95 + b ∧ j = 6 + 7 * b + 3) ∨ (i = 3 + b ∧ j = 6 + 7 * b + 4) ∨ (i = 1 + b ∧ j = 6 + 7 * b + 5) ∨ (i = 5 + b ∧ j = 6 + 7 * b + 6))) ∨
  (∃ k, k < nk ∧ ((i = 97 + k ∧ j = 20 + 7 * k + 0) ∨ (i = 109 + k ∧ j = 20 + 7 * k + 1) ∨ (i = 35 + k ∧ j = 20 + 7 * k + 2) ∨ (i = 23 + k ∧ j = 20 + 7 * k + 3) ∨ (i = 47 + k ∧ j = 20 + 7 * k + 4) ∨ (i = 59 + k ∧ j = 20 + 7 * k + 5) ∨ (i = 71 + k ∧ j = 20 + 7 * k + 6))) ∨
  (∃ r, r < nr ∧ ((i = 153 + r ∧ j = 144 + 5 * r + 0) ∨ (i = 159 + r ∧ j = 144 + 5 * r + 1) ∨ (i = 165 + r ∧ j = 144 + 5 * r + 2) ∨ (i = 11 + r ∧ j = 144 + 5 * r + 3) ∨ (i = 17 + r ∧ j = 144 + 5 * r + 4))) ∨
  (∃ h, h < nh ∧ ((i = 243 + h ∧ j = 246 + 3 * h + 0) ∨ (i = 247 + h ∧ j = 246 + 3 * h + 1) ∨ (i = 7 + h ∧ j = 246 + 3 * h + 2)))

set_option maxHeartbeats 4000000 in
theorem zPr_B {nb nk ns nr nh i j : Nat} (N : zNs nb nk ns nr nh) (P : zPr nb nk nr nh i j) : ∀ x, x < nb → (89 + x = i ↔ 6 + 7 * x + 0 = j) ∧ (91 + x = i ↔ 6 + 7 * x + 1 = j) ∧ (93 + x = i ↔ 6 + 7 * x + 2 = j) ∧ (95 + x = i ↔ 6 + 7 * x + 3 = j) ∧ (3 + x = i ↔ 6 + 7 * x + 4 = j) ∧ (1 + x = i ↔ 6 + 7 * x + 5 = j) ∧ (5 + x = i ↔ 6 + 7 * x + 6 = j) := by
  obtain ⟨n0, n1, n2, n3, n4⟩ := N
  intro x hx
  refine ⟨?_, ?_, ?_, ?_, ?_, ?_, ?_⟩ <;> rcases P with P | ⟨y, hy, P⟩ | ⟨y, hy, P⟩ | ⟨y, hy, P⟩ | ⟨y, hy, P⟩ <;> omega
set_option maxHeartbeats 4000000 in
theorem zPr_K {nb nk ns nr nh i j : Nat} (N : zNs nb nk ns nr nh) (P : zPr nb nk nr nh i j) : ∀ x, x < nk → (97 + x = i ↔ 20 + 7 * x + 0 = j) ∧ (109 + x = i ↔ 20 + 7 * x + 1 = j) ∧ (35 + x = i ↔ 20 + 7 * x + 2 = j) ∧ (23 + x = i ↔ 20 + 7 * x + 3 = j) ∧ (47 + x = i ↔ 20 + 7 * x + 4 = j) ∧ (59 + x = i ↔ 20 + 7 * x + 5 = j) ∧ (71 + x = i ↔ 20 + 7 * x + 6 = j) := by
  obtain ⟨n0, n1, n2, n3, n4⟩ := N
  intro x hx
  refine ⟨?_, ?_, ?_, ?_, ?_, ?_, ?_⟩ <;> rcases P with P | ⟨y, hy, P⟩ | ⟨y, hy, P⟩ | ⟨y, hy, P⟩ | ⟨y, hy, P⟩ <;> omega
set_option maxHeartbeats 4000000 in
theorem zPr_R {nb nk ns nr nh i j : Nat} (N : zNs nb nk ns nr nh) (P : zPr nb nk nr nh i j) : ∀ x, x < nr → (153 + x = i ↔ 144 + 5 * x + 0 = j) ∧ (159 + x = i ↔ 144 + 5 * x + 1 = j) ∧ (165 + x = i ↔ 144 + 5 * x + 2 = j) ∧ (11 + x = i ↔ 144 + 5 * x + 3 = j) ∧ (17 + x = i ↔ 144 + 5 * x + 4 = j) := by
  obtain ⟨n0, n1, n2, n3, n4⟩ := N
  intro x hx
  refine ⟨?_, ?_, ?_, ?_, ?_⟩ <;> rcases P with P | ⟨y, hy, P⟩ | ⟨y, hy, P⟩ | ⟨y, hy, P⟩ | ⟨y, hy, P⟩ <;> omega
set_option maxHeartbeats 4000000 in
theorem zPr_H {nb nk ns nr nh i j : Nat} (N : zNs nb nk ns nr nh) (P : zPr nb nk nr nh i j) : ∀ x, x < nh → (243 + x = i ↔ 246 + 3 * x + 0 = j) ∧ (247 + x = i ↔ 246 + 3 * x + 1 = j) ∧ (7 + x = i ↔ 246 + 3 * x + 2 = j) := by
  obtain ⟨n0, n1, n2, n3, n4⟩ := N
  intro x hx
  refine ⟨?_, ?_, ?_⟩ <;> rcases P with P | ⟨y, hy, P⟩ | ⟨y, hy, P⟩ | ⟨y, hy, P⟩ | ⟨y, hy, P⟩ <;> omega
theorem zPr_x {nb nk ns nr nh i j : Nat} (N : zNs nb nk ns nr nh) (P : zPr nb nk nr nh i j) : (i < 83 ∨ 88 < i) ∧ 4 < j ∧ ¬ (121 ≤ i ∧ i < 153) ∧ ¬ (104 ≤ j ∧ j < 144) ∧ ¬ (171 ≤ i ∧ i < 243) ∧ ¬ (174 ≤ j ∧ j < 246) ∧ (i = 0 ↔ j = 5) ∧ i < 251 ∧ j < 258 := by
  obtain ⟨n0, n1, n2, n3, n4⟩ := N
  rcases P with P | ⟨y, hy, P⟩ | ⟨y, hy, P⟩ | ⟨y, hy, P⟩ | ⟨y, hy, P⟩ <;> omega
theorem u_eq {C S : Nat → Int32} {i j x y : Nat} {v : Int32} (h : x = i ↔ y = j) (e : C x = S y) : upd C i v x = upd S j v y := by
  rw [u_if, u_if]
  by_cases q : x = i
  · rw [if_pos q, if_pos (h.mp q)]
  · rw [if_neg q, if_neg (fun e => q (h.mpr e)), e]
theorem zWR_upd {nb nk ns nr nh : Nat} {C S : Nat → Int32} (W : zWR nb nk ns nr nh C S) {i j : Nat} (P : zPr nb nk nr nh i j) (v : Int32) : zWR nb nk ns nr nh (upd C i v) (upd S j v) := by
  obtain ⟨N, hS, hC, hD, hB, hK, hT, hR, hH⟩ := W
  have N' : zNs nb nk ns nr nh := N
  obtain ⟨x1, x2, x3, x4, x5, x6, x7, x8, x9⟩ := zPr_x N' P
  have pB := zPr_B N' P
  have pK := zPr_K N' P
  have pR := zPr_R N' P
  have pH := zPr_H N' P
  obtain ⟨n0, n1, n2, n3, n4⟩ := N
  refine ⟨⟨n0, n1, n2, n3, n4⟩, ?_, ?_, u_eq (by omega) hD, fun b hb => ?_, fun k hk => ?_, fun s hs => ?_, fun r hr => ?_, fun h hh => ?_⟩
  · rw [u_no (by omega), u_no (by omega), u_no (by omega), u_no (by omega), u_no (by omega)]
    exact hS
  · rw [u_no (by omega), u_no (by omega), u_no (by omega), u_no (by omega), u_no (by omega)]
    exact hC
  · obtain ⟨a0, a1, a2, a3, a4, a5, a6⟩ := hB b hb
    obtain ⟨q0, q1, q2, q3, q4, q5, q6⟩ := pB b hb
    exact ⟨u_eq q0 a0, u_eq q1 a1, u_eq q2 a2, u_eq q3 a3, u_eq q4 a4, u_eq q5 a5, u_eq q6 a6⟩
  · obtain ⟨a0, a1, a2, a3, a4, a5, a6⟩ := hK k hk
    obtain ⟨q0, q1, q2, q3, q4, q5, q6⟩ := pK k hk
    exact ⟨u_eq q0 a0, u_eq q1 a1, u_eq q2 a2, u_eq q3 a3, u_eq q4 a4, u_eq q5 a5, u_eq q6 a6⟩
  · obtain ⟨n, g1, g4, e, f⟩ := hT s hs
    refine ⟨n, g1, g4, ?_, fun j' hj' => ?_⟩
    · rw [u_no (by omega)]
      exact e
    · rw [u_no (by omega), u_no (by omega)]
      exact f j' hj'
  · obtain ⟨a0, a1, a2, a3, a4, a5⟩ := hR r hr
    obtain ⟨q0, q1, q2, q3, q4⟩ := pR r hr
    refine ⟨u_eq q0 a0, u_eq q1 a1, u_eq q2 a2, u_eq q3 a3, u_eq q4 a4, fun k hk => ?_⟩
    rw [u_no (by omega), u_no (by omega)]
    exact a5 k hk
  · obtain ⟨a0, a1, a2⟩ := hH h hh
    obtain ⟨q0, q1, q2⟩ := pH h hh
    exact ⟨u_eq q0 a0, u_eq q1 a1, u_eq q2 a2⟩
theorem zDp_upd {ns : Nat} {S : Nat → Int32} (h : zDp ns S) (hn : ns ≤ 8) {j : Nat} {v : Int32} (hj : ¬ (104 ≤ j ∧ j < 144)) : zDp ns (upd S j v) := by
  intro s n hs hn4 e i hi
  rw [u_no (by omega)] at e
  rw [u_no (by omega)]
  exact h s n hs hn4 e i hi
theorem zGood_upd {nb nk ns nr nh : Nat} {C S : Nat → Int32} (G : zGood nb nk ns nr nh C S) {i j : Nat} (P : zPr nb nk nr nh i j) {v : Int32} (B : zBd nb nk ns nr nh j v) (A : zAb nb nk (upd S j v)) : zGood nb nk ns nr nh (upd C i v) (upd S j v) :=
  ⟨zWR_upd G.1 P v, zOK_upd G.2.1 B, A, zDp_upd G.2.2.2.1 G.1.ns.2.2.1 (zPr_x G.1.ns P).2.2.2.1, G.2.2.2.2⟩
/-- a cell that is neither where a book is nor its shelf, nor a barge's shelves -/
theorem zAb_no {nb nk : Nat} {S : Nat → Int32} (A : zAb nb nk S) (hb : nb ≤ 2) (hk : nk ≤ 12) {j : Nat} {v : Int32} (h0 : ∀ b, b < nb → j ≠ 6 + 7 * b + 0) (h1 : ∀ k, k < nk → j ≠ 20 + 7 * k + 3 ∧ j ≠ 20 + 7 * k + 4) : zAb nb nk (upd S j v) := by
  intro b k hb' hk' e
  have := h0 b hb'
  obtain ⟨q3, q4⟩ := h1 k hk'
  rw [u_no (by omega)] at e
  rw [u_no (by omega), u_no (by omega)]
  exact A b k hb' hk' e
/-- a book that is aboard no more -/
theorem zAb_off {nb nk : Nat} {S : Nat → Int32} (A : zAb nb nk S) (hb : nb ≤ 2) (hk : nk ≤ 12) {k : Nat} {v : Int32} (hv : ∀ b, b < nb → v ≠ 100 + nI b) : zAb nb nk (upd S (20 + 7 * k + 4) v) := by
  intro b k' hb' hk' e
  by_cases q : k' = k
  · subst q
    rw [u_at] at e
    exact absurd e (hv b hb')
  · rw [u_no (by omega)] at e
    rw [u_no (by omega), u_no (by omega)]
    exact A b k' hb' hk' e
theorem zy_100 (k : Nat) : ((100 : Int32) + nI k) = nI (100 + k) := nI_add 100 k
/-- a book on a shelf -/
theorem zAb_on {nb nk : Nat} {S : Nat → Int32} (A : zAb nb nk S) (hb : nb ≤ 2) (hk : nk ≤ 12) {k b : Nat} {v : Int32} (hb0 : b < nb) (hv : v < S (6 + 7 * b + 0)) : zAb nb nk (upd (upd S (20 + 7 * k + 3) v) (20 + 7 * k + 4) (100 + nI b)) := by
  intro b' k' hb' hk' e
  by_cases q : k' = k
  · subst q
    rw [u_at] at e
    have e1 : b' = b := by
      rw [zy_100, zy_100] at e
      have := znI (by omega) (by omega) e
      omega
    subst e1
    rw [u_no (by omega), u_at, u_no (by omega), u_no (by omega)]
    exact hv
  · rw [u_no (by omega), u_no (by omega)] at e
    rw [u_no (by omega), u_no (by omega), u_no (by omega), u_no (by omega)]
    exact A b' k' hb' hk' e
theorem zAb_sh {nb nk : Nat} {S : Nat → Int32} (A : zAb nb nk S) (hb : nb ≤ 2) (hk : nk ≤ 12) {k b : Nat} {v : Int32} (hb0 : b < nb) (hw : S (20 + 7 * k + 4) = 100 + nI b) (hv : v < S (6 + 7 * b + 0)) : zAb nb nk (upd S (20 + 7 * k + 3) v) := by
  have := zAb_on A hb hk (k := k) hb0 hv
  rw [u_id (by rw [u_no (by omega)]; exact hw)] at this
  exact this
theorem zGood_cong {nb nk ns nr nh : Nat} {C C' S S' : Nat → Int32} (G : zGood nb nk ns nr nh C S) (hC : ∀ k, k < 251 → k ≠ 83 → C' k = C k) (hS : ∀ k, k < 258 → S' k = S k) : zGood nb nk ns nr nh C' S' := by
  obtain ⟨⟨N, hS1, hC1, hD, hB, hK, hT, hR, hH⟩, O, A, D, z⟩ := G
  obtain ⟨n0, n1, n2, n3, n4⟩ := N
  refine ⟨⟨⟨n0, n1, n2, n3, n4⟩, ?_, ?_, ?_, fun b hb => ?_, fun k hk => ?_, fun s hs => ?_, fun r hr => ?_, fun h hh => ?_⟩, fun j hj => ?_, fun b k hb hk e => ?_, fun s n hs hn e i hi => ?_, z⟩
  · rw [hS 0 (by omega), hS 1 (by omega), hS 2 (by omega), hS 3 (by omega), hS 4 (by omega)]
    exact hS1
  · rw [hC 84 (by omega) (by omega), hC 85 (by omega) (by omega), hC 86 (by omega) (by omega), hC 87 (by omega) (by omega), hC 88 (by omega) (by omega)]
    exact hC1
  · rw [hC 0 (by omega) (by omega), hS 5 (by omega)]
    exact hD

  · rw [hC (89 + b) (by omega) (by omega), hS (6 + 7 * b + 0) (by omega), hC (91 + b) (by omega) (by omega), hS (6 + 7 * b + 1) (by omega), hC (93 + b) (by omega) (by omega), hS (6 + 7 * b + 2) (by omega), hC (95 + b) (by omega) (by omega), hS (6 + 7 * b + 3) (by omega), hC (3 + b) (by omega) (by omega), hS (6 + 7 * b + 4) (by omega), hC (1 + b) (by omega) (by omega), hS (6 + 7 * b + 5) (by omega), hC (5 + b) (by omega) (by omega), hS (6 + 7 * b + 6) (by omega)]
    exact hB b hb
  · rw [hC (97 + k) (by omega) (by omega), hS (20 + 7 * k + 0) (by omega), hC (109 + k) (by omega) (by omega), hS (20 + 7 * k + 1) (by omega), hC (35 + k) (by omega) (by omega), hS (20 + 7 * k + 2) (by omega), hC (23 + k) (by omega) (by omega), hS (20 + 7 * k + 3) (by omega), hC (47 + k) (by omega) (by omega), hS (20 + 7 * k + 4) (by omega), hC (59 + k) (by omega) (by omega), hS (20 + 7 * k + 5) (by omega), hC (71 + k) (by omega) (by omega), hS (20 + 7 * k + 6) (by omega)]
    exact hK k hk
  · obtain ⟨n, g1, g4, e, f⟩ := hT s hs
    refine ⟨n, g1, g4, ?_, fun j' hj' => ?_⟩
    · rw [hS _ (by omega)]
      exact e
    · rw [hC _ (by omega) (by omega), hS _ (by omega)]
      exact f j' hj'
  · rw [hC (153 + r) (by omega) (by omega), hS (144 + 5 * r + 0) (by omega), hC (159 + r) (by omega) (by omega), hS (144 + 5 * r + 1) (by omega), hC (165 + r) (by omega) (by omega), hS (144 + 5 * r + 2) (by omega), hC (11 + r) (by omega) (by omega), hS (144 + 5 * r + 3) (by omega), hC (17 + r) (by omega) (by omega), hS (144 + 5 * r + 4) (by omega)]
    obtain ⟨a0, a1, a2, a3, a4, a5⟩ := hR r hr
    refine ⟨a0, a1, a2, a3, a4, fun k hk => ?_⟩
    rw [hC _ (by omega) (by omega), hS _ (by omega)]
    exact a5 k hk
  · rw [hC (243 + h) (by omega) (by omega), hS (246 + 3 * h + 0) (by omega), hC (247 + h) (by omega) (by omega), hS (246 + 3 * h + 1) (by omega), hC (7 + h) (by omega) (by omega), hS (246 + 3 * h + 2) (by omega)]
    exact hH h hh
  · rw [hS j hj]
    exact O j hj
  · rw [hS _ (by omega)] at e
    rw [hS _ (by omega), hS _ (by omega)]
    exact A b k hb hk e
  · rw [hS _ (by omega)] at e
    rw [hS _ (by omega)]
    exact D s n hs hn e i hi
