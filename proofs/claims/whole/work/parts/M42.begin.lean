/-! ===== the two systems as they begin (printed by gen_init.py) ===== -/
def zσ0 : zSg := (some 16, none, zno, zno, [])
theorem zfnM0 : (zup (zup (zup (zup (zup (zup (zup (zup (zup (zup (zup (zup (zup (zup (zup (zup (zup (zup (zup (zup zno 0 (some 1)) 3 (some 2)) 4 (some 3)) 5 (some 4)) 6 (some 5)) 7 (some 6)) 16 (some 7)) 18 (some 8)) 20 (some 9)) 21 (some 10)) 24 (some 11)) 28 (some 12)) 29 (some 13)) 31 (some 14)) 32 (some 15)) 33 (some 16)) 34 (some 17)) 36 (some 18)) 37 (some 19)) 38 (some 20)) = zls [some 1, none, none, some 2, some 3, some 4, some 5, some 6, none, none, none, none, none, none, none, none, some 7, none, some 8, none, some 9, some 10, none, none, some 11, none, none, none, some 12, some 13, none, some 14, some 15, some 16, some 17, none, some 18, some 19, some 20] := by
  funext k
  exact match k with
    | 0 => rfl
    | 1 => rfl
    | 2 => rfl
    | 3 => rfl
    | 4 => rfl
    | 5 => rfl
    | 6 => rfl
    | 7 => rfl
    | 8 => rfl
    | 9 => rfl
    | 10 => rfl
    | 11 => rfl
    | 12 => rfl
    | 13 => rfl
    | 14 => rfl
    | 15 => rfl
    | 16 => rfl
    | 17 => rfl
    | 18 => rfl
    | 19 => rfl
    | 20 => rfl
    | 21 => rfl
    | 22 => rfl
    | 23 => rfl
    | 24 => rfl
    | 25 => rfl
    | 26 => rfl
    | 27 => rfl
    | 28 => rfl
    | 29 => rfl
    | 30 => rfl
    | 31 => rfl
    | 32 => rfl
    | 33 => rfl
    | 34 => rfl
    | 35 => rfl
    | 36 => rfl
    | 37 => rfl
    | 38 => rfl
    | 39 => rfl
    | k + 40 => rfl
theorem zshM : [(11, 0, (zup (zup (zup (zup (zup (zup (zup (zup (zup (zup (zup (zup (zup (zup (zup (zup (zup (zup (zup (zup zno 0 (some 1)) 3 (some 2)) 4 (some 3)) 5 (some 4)) 6 (some 5)) 7 (some 6)) 16 (some 7)) 18 (some 8)) 20 (some 9)) 21 (some 10)) 24 (some 11)) 28 (some 12)) 29 (some 13)) 31 (some 14)) 32 (some 15)) 33 (some 16)) 34 (some 17)) 36 (some 18)) 37 (some 19)) 38 (some 20))), (12, 400, zno), (13, 2400, zno), (13, 7, zno), (13, 360, zno), (13, 6, zno), (13, 258, zno), (13, 400, zno), (14, 64, zno), (14, 12, zno), (13, 258, zno), (13, 5160, zno), (13, 6, zno), (13, 6, zno), (13, 4, zno), (13, 4, zno), (13, 4, zno), (13, 258, zno), (13, 1032, zno), (13, 4, zno), (15, 4, zno)] = zSM := by
  rw [zfnM0]
  rfl
theorem zfnC0 : (zup (zup (zup (zup (zup (zup (zup (zup (zup (zup (zup (zup (zup zno 0 (some 1)) 2 (some 2)) 3 (some 4)) 4 (some 5)) 6 (some 6)) 9 (some 7)) 10 (some 11)) 11 (some 15)) 12 (some 19)) 13 (some 23)) 14 (some 34)) 15 (some 38)) 16 (some 41)) = zls [some 1, none, some 2, some 4, some 5, none, some 6, none, none, some 7, some 11, some 15, some 19, some 23, some 34, some 38, some 41] := by
  funext k
  exact match k with
    | 0 => rfl
    | 1 => rfl
    | 2 => rfl
    | 3 => rfl
    | 4 => rfl
    | 5 => rfl
    | 6 => rfl
    | 7 => rfl
    | 8 => rfl
    | 9 => rfl
    | 10 => rfl
    | 11 => rfl
    | 12 => rfl
    | 13 => rfl
    | 14 => rfl
    | 15 => rfl
    | 16 => rfl
    | 17 => rfl
    | k + 18 => rfl
theorem zfnC2 : (zup zno 0 (some 3)) = zls [some 3] := by
  funext k
  exact match k with
    | 0 => rfl
    | 1 => rfl
    | k + 2 => rfl
theorem zfnC7 : (zup (zup (zup zno 0 (some 8)) 5 (some 9)) 6 (some 10)) = zls [some 8, none, none, none, none, some 9, some 10] := by
  funext k
  exact match k with
    | 0 => rfl
    | 1 => rfl
    | 2 => rfl
    | 3 => rfl
    | 4 => rfl
    | 5 => rfl
    | 6 => rfl
    | 7 => rfl
    | k + 8 => rfl
theorem zfnC9 : (zup zno 0 (some 10)) = zls [some 10] := by
  funext k
  exact match k with
    | 0 => rfl
    | 1 => rfl
    | k + 2 => rfl
theorem zfnC11 : (zup (zup (zup zno 0 (some 12)) 5 (some 13)) 7 (some 14)) = zls [some 12, none, none, none, none, some 13, none, some 14, none, none] := by
  funext k
  exact match k with
    | 0 => rfl
    | 1 => rfl
    | 2 => rfl
    | 3 => rfl
    | 4 => rfl
    | 5 => rfl
    | 6 => rfl
    | 7 => rfl
    | 8 => rfl
    | 9 => rfl
    | 10 => rfl
    | k + 11 => rfl
theorem zfnC15 : (zup (zup (zup (zup zno 0 (some 16)) 1 (some 18)) 2 (some 16)) 3 none) = zls [some 16, some 18, some 16, none, none, none, none, none, none, none] := by
  funext k
  exact match k with
    | 0 => rfl
    | 1 => rfl
    | 2 => rfl
    | 3 => rfl
    | 4 => rfl
    | 5 => rfl
    | 6 => rfl
    | 7 => rfl
    | 8 => rfl
    | 9 => rfl
    | 10 => rfl
    | k + 11 => rfl
theorem zfnC16 : (zup zno 0 (some 17)) = zls [some 17] := by
  funext k
  exact match k with
    | 0 => rfl
    | 1 => rfl
    | k + 2 => rfl
theorem zfnC19 : (zup (zup (zup zno 0 (some 20)) 1 (some 21)) 2 (some 22)) = zls [some 20, some 21, some 22, none, none, none, none, none, none] := by
  funext k
  exact match k with
    | 0 => rfl
    | 1 => rfl
    | 2 => rfl
    | 3 => rfl
    | 4 => rfl
    | 5 => rfl
    | 6 => rfl
    | 7 => rfl
    | 8 => rfl
    | 9 => rfl
    | k + 10 => rfl
theorem zfnC23 : (zup (zup (zup (zup (zup (zup (zup (zup (zup (zup zno 0 (some 24)) 1 (some 25)) 2 (some 26)) 3 (some 27)) 4 (some 28)) 5 (some 29)) 6 (some 30)) 7 (some 31)) 8 (some 32)) 9 (some 33)) = zls [some 24, some 25, some 26, some 27, some 28, some 29, some 30, some 31, some 32, some 33, none, none, none, none, none, none, none] := by
  funext k
  exact match k with
    | 0 => rfl
    | 1 => rfl
    | 2 => rfl
    | 3 => rfl
    | 4 => rfl
    | 5 => rfl
    | 6 => rfl
    | 7 => rfl
    | 8 => rfl
    | 9 => rfl
    | 10 => rfl
    | 11 => rfl
    | 12 => rfl
    | 13 => rfl
    | 14 => rfl
    | 15 => rfl
    | 16 => rfl
    | 17 => rfl
    | k + 18 => rfl
theorem zfnC34 : (zup (zup (zup zno 0 (some 35)) 1 (some 36)) 2 (some 37)) = zls [some 35, some 36, some 37, none, none, none, none, none, none, none, none] := by
  funext k
  exact match k with
    | 0 => rfl
    | 1 => rfl
    | 2 => rfl
    | 3 => rfl
    | 4 => rfl
    | 5 => rfl
    | 6 => rfl
    | 7 => rfl
    | 8 => rfl
    | 9 => rfl
    | 10 => rfl
    | 11 => rfl
    | k + 12 => rfl
theorem zfnC38 : (zup (zup zno 0 (some 39)) 1 (some 40)) = zls [some 39, some 40, none, none, none, none, none, none, none, none, none] := by
  funext k
  exact match k with
    | 0 => rfl
    | 1 => rfl
    | 2 => rfl
    | 3 => rfl
    | 4 => rfl
    | 5 => rfl
    | 6 => rfl
    | 7 => rfl
    | 8 => rfl
    | 9 => rfl
    | 10 => rfl
    | 11 => rfl
    | k + 12 => rfl
theorem zfnC41 : (zup (zup (zup (zup (zup zno 0 (some 42)) 1 (some 43)) 2 (some 44)) 3 (some 45)) 4 (some 46)) = zls [some 42, some 43, some 44, some 45, some 46, none] := by
  funext k
  exact match k with
    | 0 => rfl
    | 1 => rfl
    | 2 => rfl
    | 3 => rfl
    | 4 => rfl
    | 5 => rfl
    | 6 => rfl
    | k + 7 => rfl
theorem zshC : [(10, 0, (zup (zup (zup (zup (zup (zup (zup (zup (zup (zup (zup (zup (zup zno 0 (some 1)) 2 (some 2)) 3 (some 4)) 4 (some 5)) 6 (some 6)) 9 (some 7)) 10 (some 11)) 11 (some 15)) 12 (some 19)) 13 (some 23)) 14 (some 34)) 15 (some 38)) 16 (some 41))), (13, 400, zno), (9, 0, (zup zno 0 (some 3))), (13, 251, zno), (17, 4, zno), (16, 6, zno), (13, 1660, zno), (6, 0, (zup (zup (zup zno 0 (some 8)) 5 (some 9)) 6 (some 10))), (13, 400, zno), (9, 0, (zup zno 0 (some 10))), (13, 251, zno), (8, 0, (zup (zup (zup zno 0 (some 12)) 5 (some 13)) 7 (some 14))), (13, 400, zno), (13, 400, zno), (13, 60, zno), (1, 0, (zup (zup (zup (zup zno 0 (some 16)) 1 (some 18)) 2 (some 16)) 3 none)), (9, 0, (zup zno 0 (some 17))), (13, 251, zno), (14, 12, zno), (2, 0, (zup (zup (zup zno 0 (some 20)) 1 (some 21)) 2 (some 22))), (13, 12, zno), (13, 12, zno), (13, 12, zno), (3, 0, (zup (zup (zup (zup (zup (zup (zup (zup (zup (zup zno 0 (some 24)) 1 (some 25)) 2 (some 26)) 3 (some 27)) 4 (some 28)) 5 (some 29)) 6 (some 30)) 7 (some 31)) 8 (some 32)) 9 (some 33))), (13, 72, zno), (13, 7, zno), (13, 6, zno), (13, 12, zno), (13, 12, zno), (13, 8, zno), (13, 8, zno), (13, 8, zno), (13, 6, zno), (13, 6, zno), (4, 0, (zup (zup (zup zno 0 (some 35)) 1 (some 36)) 2 (some 37))), (13, 12, zno), (13, 12, zno), (13, 12, zno), (0, 0, (zup (zup zno 0 (some 39)) 1 (some 40))), (13, 12, zno), (13, 12, zno), (5, 0, (zup (zup (zup (zup (zup zno 0 (some 42)) 1 (some 43)) 2 (some 44)) 3 (some 45)) 4 (some 46))), (15, 4, zno), (13, 4, zno), (13, 12, zno), (13, 4, zno), (13, 4, zno)] = zSC zσ0 := by
  rw [zfnC0, zfnC2, zfnC7, zfnC9, zfnC11, zfnC15, zfnC16, zfnC19, zfnC23, zfnC34, zfnC38, zfnC41]
  rfl
theorem zbeginM : ∃ (I : zTI) (J : zTJ), zS zG 1 154 0 (zpad (zG 154).2.2.1 (zar0 [.ref 0])) [] (znew zh0 11 0) = some (none, (zSM, I, J)) ∧ I 0 = (fun _ => 0) ∧ I 1 = (fun _ => 0) ∧ I 2 = (fun _ => 0) ∧ I 3 = (fun _ => 0) ∧ I 4 = (fun _ => 0) ∧ I 5 = (fun _ => 0) ∧ I 6 = (fun _ => 0) ∧ I 7 = (fun _ => 0) ∧ I 8 = (fun _ => 0) ∧ I 9 = (fun _ => 0) ∧ I 10 = (fun _ => 0) ∧ I 11 = (fun _ => 0) ∧ I 12 = (fun _ => 0) ∧ I 13 = (fun _ => 0) ∧ I 14 = (fun _ => 0) ∧ I 15 = (fun _ => 0) ∧ I 16 = (fun _ => 0) ∧ I 17 = (fun _ => 0) ∧ I 18 = (fun _ => 0) ∧ I 19 = (fun _ => 0) ∧ I 20 = (fun _ => 0) := by
  obtain ⟨I1, J1, e, -, z, o⟩ := zct22 (znew zh0 11 0).2.1 (znew zh0 11 0).2.2
  rw [zshM] at e
  exact ⟨I1, J1, e, o rfl, z.1, z.2.1, z.2.2.1, z.2.2.2.1, z.2.2.2.2.1, z.2.2.2.2.2.1, z.2.2.2.2.2.2.1, z.2.2.2.2.2.2.2.1, z.2.2.2.2.2.2.2.2.1, z.2.2.2.2.2.2.2.2.2.1, z.2.2.2.2.2.2.2.2.2.2.1, z.2.2.2.2.2.2.2.2.2.2.2.1, z.2.2.2.2.2.2.2.2.2.2.2.2.1, z.2.2.2.2.2.2.2.2.2.2.2.2.2.1, z.2.2.2.2.2.2.2.2.2.2.2.2.2.2.1, z.2.2.2.2.2.2.2.2.2.2.2.2.2.2.2.1, z.2.2.2.2.2.2.2.2.2.2.2.2.2.2.2.2.1, z.2.2.2.2.2.2.2.2.2.2.2.2.2.2.2.2.2.1, z.2.2.2.2.2.2.2.2.2.2.2.2.2.2.2.2.2.2.1, z.2.2.2.2.2.2.2.2.2.2.2.2.2.2.2.2.2.2.2.1⟩
theorem zbeginC : ∃ (I : zTI) (J : zTJ), zS zG 3 114 0 (zpad (zG 114).2.2.1 (zar0 [.ref 0])) [] (znew zh0 10 0) = some (none, (zSC zσ0, I, J)) ∧ I 0 = (fun _ => 0) ∧ I 1 = (fun _ => 0) ∧ I 3 = (fun _ => 0) ∧ I 6 = (fun _ => 0) := by
  obtain ⟨I1, J1, e, -, z, o⟩ := zct125 (znew zh0 10 0).2.1 (znew zh0 10 0).2.2
  rw [zshC] at e
  exact ⟨I1, J1, e, o rfl, z.1, z.2.1, z.2.2.2.2.1⟩
