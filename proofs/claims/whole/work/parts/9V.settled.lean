/-! ===== a river: what has been read is good ===== -/
set_option maxHeartbeats 16000000 in
theorem zRv_end {nb nk ns nr nh : Nat} {C R C' S' : Nat → Int32} (V : zRv nb nk ns nr nh C R) (hn : ns ≠ 0) (hC : ∀ k, k < 251 → k ≠ 83 → C' k = zst ns C k) (hS : ∀ j, j < 258 → S' j = if nb = 2 ∧ j = 18 then nI (ns - 1) else R j) : zGood nb nk ns nr nh C' S' := by
  obtain ⟨⟨n0, n1, n2, n3, n4⟩, ⟨s0, s1, s2, s3, s4⟩, ⟨c0, c1, c2, c3, c4⟩, e5, hB, hK, hT, hR, hH, ⟨z0, z1, z2, z3⟩, h00⟩ := V
  have nb1 : nb ≠ 0 := fun h => hn (h00 h).2.1
  have fC : ∀ k, k < 251 ∧ k ≠ 83 ∧ ¬ (71 ≤ k ∧ k < 83) ∧ ¬ (11 ≤ k ∧ k < 17) ∧ k ≠ 2 → C' k = C k := fun k h => by
    rw [hC k h.1 h.2.1]
    unfold zst
    rw [if_neg h.2.2.1, if_neg h.2.2.2.1, if_neg h.2.2.2.2]
  have fm : ∀ k, (71 ≤ k ∧ k < 83) ∨ (11 ≤ k ∧ k < 17) → C' k = -1 := fun k h => by
    rw [hC k (by omega) (by omega)]
    unfold zst
    by_cases q : 71 ≤ k ∧ k < 83
    · rw [if_pos q]
    · rw [if_neg q, if_pos (by omega)]
  have f2 : C' 2 = nI (ns - 1) := by
    rw [hC 2 (by omega) (by omega)]
    unfold zst
    rw [if_neg (by omega), if_neg (by omega), if_pos rfl]
    exact z_sub1 (k := 1) (by omega)
  have fS : ∀ j, j < 258 ∧ j ≠ 18 → S' j = R j := fun j h => by rw [hS j h.1, if_neg (fun q => h.2 q.2)]
  have fat : ∀ b, b < nb → C' (1 + b) = S' (6 + 7 * b + 5) ∧ ∃ d, d < ns ∧ S' (6 + 7 * b + 5) = nI d := fun b hb => by
    by_cases q : b = 0
    · subst q
      obtain ⟨v0, v1, v2, v3, h0, h1, h2, h3, x0, x1, x2, x3, y0, y1, y2, y3, y4, y5, y6⟩ := hB 0 hb
      rw [fC _ (by omega), fS _ (by omega), y5, z0 _ (by omega)]
      exact ⟨rfl, 0, by omega, rfl⟩
    · have q1 : b = 1 := by omega
      subst q1
      rw [show 1 + 1 = 2 from rfl, f2, hS _ (by omega), if_pos (by omega)]
      exact ⟨rfl, ns - 1, by omega, rfl⟩
  refine ⟨⟨⟨n0, n1, n2, n3, n4⟩, ⟨(fS 0 (by omega)).trans s0, (fS 1 (by omega)).trans s1, (fS 2 (by omega)).trans s2, (fS 3 (by omega)).trans s3, (fS 4 (by omega)).trans s4⟩, ⟨(fC 84 (by omega)).trans c0, (fC 85 (by omega)).trans c1, (fC 86 (by omega)).trans c2, (fC 87 (by omega)).trans c3, (fC 88 (by omega)).trans c4⟩, ?_, fun b hb => ?_, fun k hk => ?_, fun s hs => ?_, fun r hr => ?_, fun h hh => ?_⟩, fun j hj => ⟨fun e => ?_, fun b hb => ?_, fun k hk => ?_, fun r hr => ?_, fun h hh => ?_⟩, fun b k hb hk e => ?_, fun s n hs hn4 e i hi => ?_, ⟨fun h => absurd h nb1, fun h => absurd h hn⟩⟩
  · rw [fC 0 (by omega), fS 5 (by omega), e5, z0 0 (by omega)]
  · obtain ⟨v0, v1, v2, v3, h0, h1, h2, h3, x0, x1, x2, x3, y0, y1, y2, y3, y4, y5, y6⟩ := hB b hb
    refine ⟨?_, ?_, ?_, ?_, ?_, (fat b hb).1, ?_⟩
    · rw [fC _ (by omega), fS _ (by omega), x0, y0]
    · rw [fC _ (by omega), fS _ (by omega), x1, y1]
    · rw [fC _ (by omega), fS _ (by omega), x2, y2]
    · rw [fC _ (by omega), fS _ (by omega), x3, y3]
    · rw [fC _ (by omega), fS _ (by omega), y4, z0 _ (by omega)]
    · rw [fC _ (by omega), fS _ (by omega), y6, z0 _ (by omega)]
  · obtain ⟨v0, v1, vb, v3, h0, h1, h2, h3, h4, x0, x1, x2, x3, y0, y1, y2, y3, y4, y5, y6⟩ := hK k hk
    refine ⟨?_, ?_, ?_, ?_, ?_, ?_, ?_⟩
    · rw [fC _ (by omega), fS _ (by omega), x0, y0]
    · rw [fC _ (by omega), fS _ (by omega), x1, y1]
    · rw [fC _ (by omega), fS _ (by omega), y2, z1 _ (by omega) (by omega)]
    · rw [fC _ (by omega), fS _ (by omega), x3, y3]
    · rw [fC _ (by omega), fS _ (by omega), x2, y4]
    · rw [fC _ (by omega), fS _ (by omega), y5, z2 _ (by omega) (by omega)]
    · rw [fm _ (by omega), fS _ (by omega), y6]
  · obtain ⟨n, h0, h1, h2, h3, h4⟩ := hT s hs
    refine ⟨n, h0, h1, (fS _ (by omega)).trans h2, fun j hj => ?_⟩
    rw [fC _ (by omega), fS _ (by omega)]
    exact h3 j hj
  · obtain ⟨v0, v1, v2, h0, h1, h2, x0, x1, x2, y0, y1, y2, y3, y4, h3⟩ := hR r hr
    refine ⟨?_, ?_, ?_, ?_, ?_, fun k hk => ?_⟩
    · rw [fC _ (by omega), fS _ (by omega), x0, y0]
    · rw [fC _ (by omega), fS _ (by omega), x1, y1]
    · rw [fC _ (by omega), fS _ (by omega), x2, y2]
    · rw [fm _ (by omega), fS _ (by omega), y3]
    · rw [fC _ (by omega), fS _ (by omega), y4, z0 _ (by omega)]
    · obtain ⟨d, q0, q1, q2⟩ := h3 k hk
      rw [fC _ (by omega), fS _ (by omega), q1, q2]
  · obtain ⟨v0, v1, h0, h1, x0, x1, y0, y1, y2⟩ := hH h hh
    refine ⟨?_, ?_, ?_⟩
    · rw [fC _ (by omega), fS _ (by omega), x0, y0]
    · rw [fC _ (by omega), fS _ (by omega), x1, y1]
    · rw [fC _ (by omega), fS _ (by omega), y2, z0 _ (by omega)]
  · subst e
    exact ⟨0, by omega, by rw [fS _ (by omega), e5]; rfl⟩
  · obtain ⟨v0, v1, v2, v3, h0, h1, h2, h3, x0, x1, x2, x3, y0, y1, y2, y3, y4, y5, y6⟩ := hB b hb
    refine ⟨fun e => ?_, fun e => ?_, fun e => ?_, fun e => ?_, fun e => ?_, fun e => ?_⟩
    · subst e; exact ⟨v0, h0.1, h0.2, by rw [fS _ (by omega), y0]⟩
    · subst e; exact ⟨v1, h1, by rw [fS _ (by omega), y1]⟩
    · subst e; exact ⟨v2, h2.1, h2.2, by rw [fS _ (by omega), y2]⟩
    · subst e; exact ⟨v3, h3.1, h3.2, by rw [fS _ (by omega), y3]⟩
    · subst e; exact ⟨0, by omega, by rw [fS _ (by omega), y4]; rfl⟩
    · subst e; exact (fat b hb).2
  · obtain ⟨v0, v1, vb, v3, h0, h1, h2, h3, h4, x0, x1, x2, x3, y0, y1, y2, y3, y4, y5, y6⟩ := hK k hk
    refine ⟨fun e => ?_, fun e => ?_, fun e => ?_, fun e => ?_, fun e => ?_⟩
    · subst e; exact ⟨v0, h0.1, h0.2, by rw [fS _ (by omega), y0]⟩
    · subst e; exact ⟨v1, h1, by rw [fS _ (by omega), y1]⟩
    · subst e; exact ⟨0, by omega, by rw [fS _ (by omega), y2]; rfl⟩
    · subst e; exact ⟨v3, h3, by rw [fS _ (by omega), y3]⟩
    · subst e; exact Or.inr (Or.inl ⟨vb, h2, by rw [fS _ (by omega), y4]⟩)
  · obtain ⟨v0, v1, v2, h0, h1, h2, x0, x1, x2, y0, y1, y2, y3, y4, h3⟩ := hR r hr
    refine ⟨fun e => ?_, fun e => ?_, fun e => ?_, fun e => ?_, fun k hk e => ?_⟩
    · subst e; exact ⟨v0, h0, by rw [fS _ (by omega), y0]⟩
    · subst e; exact ⟨v1, h1, by rw [fS _ (by omega), y1]⟩
    · subst e; exact ⟨v2, h2.1, h2.2, by rw [fS _ (by omega), y2]⟩
    · subst e; exact Or.inl (by rw [fS _ (by omega), y3])
    · subst e
      obtain ⟨d, q0, q1, q2⟩ := h3 k hk
      exact ⟨d, q0, by rw [fS _ (by omega), q2]⟩
  · obtain ⟨v0, v1, h0, h1, x0, x1, y0, y1, y2⟩ := hH h hh
    refine ⟨fun e => ?_, fun e => ?_, fun e => ?_⟩
    · subst e; exact ⟨v0, h0, by rw [fS _ (by omega), y0]⟩
    · subst e; exact ⟨v1, h1.1, h1.2, by rw [fS _ (by omega), y1]⟩
    · subst e; exact Or.inl (by rw [fS _ (by omega), y2])
  · obtain ⟨v0, v1, vb, v3, h0, h1, h2, h3, h4, x0, x1, x2, x3, y0, y1, y2, y3, y4, y5, y6⟩ := hK k hk
    rw [fS _ (by omega), y4] at e
    have eb : vb = b := by
      have e' : nI (100 + vb) = nI (100 + b) := by
        rw [← nI_add, ← nI_add]
        exact e
      have := znI (by omega) (by omega) e'
      omega
    subst eb
    rw [fS _ (by omega), fS _ (by omega), y3]
    exact h4
  · obtain ⟨m, h0, h1, h2, h3, h4⟩ := hT s hs
    rw [fS _ (by omega), h2] at e
    have em := znI (by omega) (by omega) e
    subst em
    rw [fS _ (by omega)]
    exact h4 i hi
