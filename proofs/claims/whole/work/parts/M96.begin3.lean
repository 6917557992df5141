/-! ===== the beginning, and how much room there is ===== -/
theorem zbeginC2 : ∃ (I : zTI) (J : zTJ), zS zG 3 114 0 (zpad (zG 114).2.2.1 (zar0 [.ref 0])) [] (znew zh0 10 0) = some (none, (zSC zσ0, I, J)) ∧ I 0 = (fun _ => 0) ∧ I 1 = (fun _ => 0) ∧ I 3 = (fun _ => 0) ∧ I 6 = (fun _ => 0) ∧ I 25 = (fun _ => 0) := by
  obtain ⟨I1, J1, e, -, z, o⟩ := zct125 (znew zh0 10 0).2.1 (znew zh0 10 0).2.2
  rw [zshC] at e
  exact ⟨I1, J1, e, o rfl, z.1, z.2.1, z.2.2.2.2.1, z.2.2.2.2.2.2.2.2.2.2.2.2.2.2.2.2.1⟩
theorem zGood_0 : zGood 0 0 0 0 0 (fun _ => 0) (fun _ => 0) := by
  refine ⟨⟨⟨by omega, by omega, by omega, by omega, by omega⟩, ⟨rfl, rfl, rfl, rfl, rfl⟩, ⟨rfl, rfl, rfl, rfl, rfl⟩, rfl, fun _ h => by omega, fun _ h => by omega, fun _ h => by omega, fun _ h => by omega, fun _ h => by omega⟩, fun j hj => ⟨fun _ => ⟨0, by omega, rfl⟩, fun _ h => by omega, fun _ h => by omega, fun _ h => by omega, fun _ h => by omega⟩, fun _ _ h => by omega, fun _ _ h => by omega, Iff.rfl⟩
theorem zRe_0 {I I' : zTI} {J J' : zTJ} (c0 : I 0 = (fun _ => 0)) (c3 : I 3 = (fun _ => 0)) (c25 : I 25 = (fun _ => 0)) (m0 : I' 0 = (fun _ => 0)) (m10 : I' 10 = (fun _ => 0)) (m20 : I' 20 = (fun _ => 0)) : zRe 0 (zSC (some 16, none, zno, zno, []), I, J) (zSM, I', J') := by
  refine ⟨(some 16, none, zno, zno, []), I, J, I', J', 0, 0, 0, 0, 0, 0, 0, 0, rfl, rfl, ⟨⟨by rw [c0]; rfl, by rw [m0]; rfl, by omega, fun _ h => by omega⟩, ?_, ⟨by omega, by omega, fun _ h => by omega⟩, by rw [c3, m0], by rw [m0]; decide, by rw [m0], by rw [c0]; rfl, by rw [c0]; rfl, by rw [m0]; rfl, by rw [c0, m0], by rw [c25]⟩, ⟨0, by omega, by rw [c0]; rfl, by rw [m0]; rfl, fun _ h => by omega⟩, ⟨fun k _ => Or.inl ⟨rfl, by rw [m20]⟩, fun _ _ _ _ _ _ _ h => by cases h⟩, ⟨by show 0 ≤ _; omega, by show 0 ≤ _; omega⟩⟩
  rw [c3, m10]
  exact zGood_0
theorem zsz_SC (σ : zSg) : zsz (zSC σ) = zsz (zSC (none, none, zno, zno, [])) + zsz σ.2.2.2.2 := by
  have e : zSC σ = (zSC (σ.1, σ.2.1, σ.2.2.1, σ.2.2.2.1, [])) ++ σ.2.2.2.2 := rfl
  rw [e, zsz_app]
  rfl
theorem zRB_e : zRBr zRe := by
  intro n hx hm R0
  obtain ⟨σ, I, J, I', J', nb, nk, ns, nr, nh, t, j, u, rfl, rfl, H, R, M, B⟩ := R0
  refine ⟨fun hn => ⟨?_, ?_⟩, ⟨_, _, rfl⟩, ⟨_, _, rfl⟩, ⟨σ, I, J, I', J', nb, nk, ns, nr, nh, t, j, u, rfl, rfl, H, R, M, zBn_s B rfl⟩⟩
  · show (zSC σ).length + zSM.length ≤ room_1.cells
    rw [zSC_len, show zSM.length = 21 from rfl]
    have := B.1
    have := zroom
    omega
  · show zsz (zSC σ) + zsz zSM ≤ room_1.slots
    rw [zsz_SC]
    have h1 : zsz (zSC (none, none, zno, zno, [])) ≤ 20000 := by decide
    have h2 : zsz zSM ≤ 20000 := by decide
    have := B.2
    have := zroom
    omega
