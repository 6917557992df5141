/-! ===== a rule: a clause, one kind after another: the reference ===== -/
/-- a clause is whole -/
noncomputable def zDe (at_ : Nat) (I : zTI) (J : zTJ) : Option zR := (zif (zin (I 0 12) 7) (zif (zin (nI (at_ + 4)) 360) (zif (zin (I 0 12) 6) (zif (zin (I 0 12) 6) (some (some (.int 1), (zSM, (zsI (zsI I 4 (at_ + 4) (I 3 ((I 0 12).toNatClampNeg))) 5 ((I 0 12).toNatClampNeg) ((I 5 ((I 0 12).toNatClampNeg)) + 1)), J)))))))
theorem p_De {tt nc a : Nat} {I : zTI} {J : zTJ} (h1 : I 0 12 = nI tt) (h2 : I 5 tt = nI nc) (htt : tt < 6) (ha : a + 4 < 360) : zDe a I J = some (some (.int 1), (zSM, zsI (zsI I 4 (a + 4) (I 3 tt)) 5 tt (nI (nc + 1)), J)) := by
  unfold zDe
  rw [h1, ztnn (by omega), h2, zif_n (by omega) (by omega), zif_n ha (by omega), zif_n (by omega) (by omega), zif_n (by omega) (by omega), nI_1]
theorem p_th {tt a : Nat} {I : zTI} {J : zTJ} (h1 : I 0 12 = nI tt) (htt : tt < 6) (ha : a + 3 < 360) : qm_isTestHere (nI a) I J = zkI (qm_tested (zsI I 4 (a + 3) (I 3 tt)) J) zSM (fun r3 I1 J2 => (zif (zbo r3) (some (some (.int r3), (zSM, I1, J2))))) := by
  rw [t_qm_isTestHere, h1, ztnn (by omega), show nI a + 3 = nI (a + 3) from nI_add _ 3, zif_n (by omega) (by omega), zif_n ha (by omega), ztnn (by omega)]
set_option maxHeartbeats 16000000 in
theorem p_dhL {I P : zTI} {J : zTJ} {tt nc a : Nat} (hp : qm_passWord I J = some (none, (zSM, P, J))) (p12 : P 0 12 = nI tt) (p5 : P 5 tt = nI nc) (htt : tt < 6) (hn : nc < 12) (ha : a = 60 * tt + 5 * nc) : qm_isDoingHere 0 I J = zkI (qm_sum (zsI (zsI (zsI P 4 a 0) 4 (a + 1) (P 3 tt)) 4 (a + 3) (-1)) J) zSM (fun r5 I3 J4 => (if r5 = 0 then (some (some (.int 0), (zSM, I3, J4))) else (zif (zin (I3 0 12) 7) (zkI (qm_takesWord 26982 (zsI I3 4 (a + 2) (I3 3 ((I3 0 12).toNatClampNeg))) J4) zSM (fun r8 I6 J7 => (if r8 = 0 then zDe a I6 J7 else (zkI (qm_isTestHere (nI a) I6 J7) zSM (fun r11 I9 J10 => (if r11 = 0 then (some (some (.int 0), (zSM, I9, J10))) else zDe a I9 J10))))))))) := by
  have tt1 : (nI tt).toNatClampNeg = tt := ztnn (by omega)
  have aa : (60 : Int32) * nI tt + 5 * nI nc = nI a := by rw [ha]; exact z_605
  have ta : (nI a).toNatClampNeg = a := ztnn (by omega)
  have z6 : ∀ x : Option zR, zif (zin (nI tt) 6) x = x := fun x => zif_n (by omega) (by omega)
  have z7 : ∀ x : Option zR, zif (zin (nI tt) 7) x = x := fun x => zif_n (by omega) (by omega)
  have za : ∀ x : Option zR, zif (zin (nI a) 360) x = x := fun x => zif_n (by omega) (by omega)
  have m1 : nI a + 1 = nI (a + 1) := nI_add _ 1
  have z_1 : ∀ x : Option zR, zif (zin (nI (a + 1)) 360) x = x := fun x => zif_n (by omega) (by omega)
  have t1 : (nI (a + 1)).toNatClampNeg = a + 1 := ztnn (by omega)
  have m2 : nI a + 2 = nI (a + 2) := nI_add _ 2
  have z_2 : ∀ x : Option zR, zif (zin (nI (a + 2)) 360) x = x := fun x => zif_n (by omega) (by omega)
  have t2 : (nI (a + 2)).toNatClampNeg = a + 2 := ztnn (by omega)
  have m3 : nI a + 3 = nI (a + 3) := nI_add _ 3
  have z_3 : ∀ x : Option zR, zif (zin (nI (a + 3)) 360) x = x := fun x => zif_n (by omega) (by omega)
  have t3 : (nI (a + 3)).toNatClampNeg = a + 3 := ztnn (by omega)
  have m4 : nI a + 4 = nI (a + 4) := nI_add _ 4
  have z_4 : ∀ x : Option zR, zif (zin (nI (a + 4)) 360) x = x := fun x => zif_n (by omega) (by omega)
  have t4 : (nI (a + 4)).toNatClampNeg = a + 4 := ztnn (by omega)
  unfold zDe
  rw [t_qm_isDoingHere, hp, zkV_s]
  simp only [p12, tt1, p5, aa, ta, z6, z7, za, m1, m2, m3, m4, z_1, z_2, z_3, z_4, t1, t2, t3, t4, eq_self, e01, e02, ↓reduceIte]
set_option maxHeartbeats 16000000 in
theorem p_dhF {I P : zTI} {J : zTJ} {tt nc a : Nat} (hp : qm_passWord I J = some (none, (zSM, P, J))) (p12 : P 0 12 = nI tt) (p5 : P 5 tt = nI nc) (htt : tt < 6) (hn : nc < 12) (ha : a = 60 * tt + 5 * nc) : qm_isDoingHere 1 I J = zkI (qm_isTestHere (nI a) (zsI (zsI (zsI P 4 a 1) 4 (a + 1) (P 3 tt)) 4 (a + 3) (-1)) J) zSM (fun r14 I12 J13 => (if r14 = 0 then (some (some (.int 0), (zSM, I12, J13))) else zDe a I12 J13)) := by
  have tt1 : (nI tt).toNatClampNeg = tt := ztnn (by omega)
  have aa : (60 : Int32) * nI tt + 5 * nI nc = nI a := by rw [ha]; exact z_605
  have ta : (nI a).toNatClampNeg = a := ztnn (by omega)
  have z6 : ∀ x : Option zR, zif (zin (nI tt) 6) x = x := fun x => zif_n (by omega) (by omega)
  have z7 : ∀ x : Option zR, zif (zin (nI tt) 7) x = x := fun x => zif_n (by omega) (by omega)
  have za : ∀ x : Option zR, zif (zin (nI a) 360) x = x := fun x => zif_n (by omega) (by omega)
  have m1 : nI a + 1 = nI (a + 1) := nI_add _ 1
  have z_1 : ∀ x : Option zR, zif (zin (nI (a + 1)) 360) x = x := fun x => zif_n (by omega) (by omega)
  have t1 : (nI (a + 1)).toNatClampNeg = a + 1 := ztnn (by omega)
  have m2 : nI a + 2 = nI (a + 2) := nI_add _ 2
  have z_2 : ∀ x : Option zR, zif (zin (nI (a + 2)) 360) x = x := fun x => zif_n (by omega) (by omega)
  have t2 : (nI (a + 2)).toNatClampNeg = a + 2 := ztnn (by omega)
  have m3 : nI a + 3 = nI (a + 3) := nI_add _ 3
  have z_3 : ∀ x : Option zR, zif (zin (nI (a + 3)) 360) x = x := fun x => zif_n (by omega) (by omega)
  have t3 : (nI (a + 3)).toNatClampNeg = a + 3 := ztnn (by omega)
  have m4 : nI a + 4 = nI (a + 4) := nI_add _ 4
  have z_4 : ∀ x : Option zR, zif (zin (nI (a + 4)) 360) x = x := fun x => zif_n (by omega) (by omega)
  have t4 : (nI (a + 4)).toNatClampNeg = a + 4 := ztnn (by omega)
  unfold zDe
  rw [t_qm_isDoingHere, hp, zkV_s]
  simp only [p12, tt1, p5, aa, ta, z6, z7, za, m1, m2, m3, m4, z_1, z_2, z_3, z_4, t1, t2, t3, t4, eq_self, e10, e12, ↓reduceIte]
set_option maxHeartbeats 16000000 in
theorem p_dhS {I P : zTI} {J : zTJ} {tt nc a : Nat} (hp : qm_passWord I J = some (none, (zSM, P, J))) (p12 : P 0 12 = nI tt) (p5 : P 5 tt = nI nc) (htt : tt < 6) (hn : nc < 12) (ha : a = 60 * tt + 5 * nc) : qm_isDoingHere 2 I J = zkI (qm_numberHere 0 7 (zsI (zsI (zsI P 4 a 2) 4 (a + 1) (P 3 tt)) 4 (a + 3) (-1)) J) zSM (fun r17 I15 J16 => (if r17 = 0 then (some (some (.int 0), (zSM, I15, J16))) else (zkI (qm_see (zsI I15 4 (a + 1) (I15 0 11)) J16) zSM (fun r20 I18 J19 => (zkI (qm_takesWord 26982 I18 J19) zSM (fun r23 I21 J22 => (if r23 = 0 then (zkI (qm_fails 0 (I21 0 9) I21 J22) zSM (fun r26 I24 J25 => (zif (zbo r26) (some (some (.int r26), (zSM, I24, J25)))))) else (zkI (qm_isTestHere (nI a) I21 J22) zSM (fun r29 I27 J28 => (if r29 = 0 then (some (some (.int 0), (zSM, I27, J28))) else zDe a I27 J28)))))))))) := by
  have tt1 : (nI tt).toNatClampNeg = tt := ztnn (by omega)
  have aa : (60 : Int32) * nI tt + 5 * nI nc = nI a := by rw [ha]; exact z_605
  have ta : (nI a).toNatClampNeg = a := ztnn (by omega)
  have z6 : ∀ x : Option zR, zif (zin (nI tt) 6) x = x := fun x => zif_n (by omega) (by omega)
  have z7 : ∀ x : Option zR, zif (zin (nI tt) 7) x = x := fun x => zif_n (by omega) (by omega)
  have za : ∀ x : Option zR, zif (zin (nI a) 360) x = x := fun x => zif_n (by omega) (by omega)
  have m1 : nI a + 1 = nI (a + 1) := nI_add _ 1
  have z_1 : ∀ x : Option zR, zif (zin (nI (a + 1)) 360) x = x := fun x => zif_n (by omega) (by omega)
  have t1 : (nI (a + 1)).toNatClampNeg = a + 1 := ztnn (by omega)
  have m2 : nI a + 2 = nI (a + 2) := nI_add _ 2
  have z_2 : ∀ x : Option zR, zif (zin (nI (a + 2)) 360) x = x := fun x => zif_n (by omega) (by omega)
  have t2 : (nI (a + 2)).toNatClampNeg = a + 2 := ztnn (by omega)
  have m3 : nI a + 3 = nI (a + 3) := nI_add _ 3
  have z_3 : ∀ x : Option zR, zif (zin (nI (a + 3)) 360) x = x := fun x => zif_n (by omega) (by omega)
  have t3 : (nI (a + 3)).toNatClampNeg = a + 3 := ztnn (by omega)
  have m4 : nI a + 4 = nI (a + 4) := nI_add _ 4
  have z_4 : ∀ x : Option zR, zif (zin (nI (a + 4)) 360) x = x := fun x => zif_n (by omega) (by omega)
  have t4 : (nI (a + 4)).toNatClampNeg = a + 4 := ztnn (by omega)
  unfold zDe
  rw [t_qm_isDoingHere, hp, zkV_s]
  simp only [p12, tt1, p5, aa, ta, z6, z7, za, m1, m2, m3, m4, z_1, z_2, z_3, z_4, t1, t2, t3, t4, eq_self, e20, e21, ↓reduceIte]
