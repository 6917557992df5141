/-! ===== trees (printed by gen_tree.py) ===== -/
set_option maxHeartbeats 16000000 in
set_option maxRecDepth 100000 in
theorem t_qn_open (w : Nat) (x2 : Int32) (c : Nat) (hwc : zsn w c) (σ : zSg) (I : zTI) (J : zTJ) : qn_open w x2 σ I J = (zif (zrg 0 (if (0 : Int32) < (if (if (400 : Int32) < 400 then 400 else 400) < x2 then (if (400 : Int32) < 400 then 400 else 400) else x2) then (if (if (400 : Int32) < 400 then 400 else 400) < x2 then (if (400 : Int32) < 400 then 400 else 400) else x2) else 0) 400) (zif (zrg 0 (if (0 : Int32) < (if (if (400 : Int32) < 400 then 400 else 400) < x2 then (if (400 : Int32) < 400 then 400 else 400) else x2) then (if (if (400 : Int32) < 400 then 400 else 400) < x2 then (if (400 : Int32) < 400 then 400 else 400) else x2) else 0) 400) (zkV (qn_skipBlanks w σ (zsI (zsI (zrI (zsI I w 1 (if (0 : Int32) < (if (if (400 : Int32) < 400 then 400 else 400) < x2 then (if (400 : Int32) < 400 then 400 else 400) else x2) then (if (if (400 : Int32) < 400 then 400 else 400) < x2 then (if (400 : Int32) < 400 then 400 else 400) else x2) else 0)) c (va_cpy ((zsI I w 1 (if (0 : Int32) < (if (if (400 : Int32) < 400 then 400 else 400) < x2 then (if (400 : Int32) < 400 then 400 else 400) else x2) then (if (if (400 : Int32) < 400 then 400 else 400) < x2 then (if (400 : Int32) < 400 then 400 else 400) else x2) else 0)) 1) ((zsI I w 1 (if (0 : Int32) < (if (if (400 : Int32) < 400 then 400 else 400) < x2 then (if (400 : Int32) < 400 then 400 else 400) else x2) then (if (if (400 : Int32) < 400 then 400 else 400) < x2 then (if (400 : Int32) < 400 then 400 else 400) else x2) else 0)) c) 0 0 ((if (0 : Int32) < (if (if (400 : Int32) < 400 then 400 else 400) < x2 then (if (400 : Int32) < 400 then 400 else 400) else x2) then (if (if (400 : Int32) < 400 then 400 else 400) < x2 then (if (400 : Int32) < 400 then 400 else 400) else x2) else 0).toNatClampNeg))) w 2 0) w 4 0) J) (zSC σ) (fun I1 J2 => (some (none, ((zSC σ), I1, J2))))))) := by
  rcases hwc with ⟨rfl, rfl⟩ | ⟨rfl, rfl⟩
  all_goals exact (zS_eq zG 1 61 0 _ _ _).trans rfl
set_option maxHeartbeats 16000000 in
set_option maxRecDepth 100000 in
theorem t_qn_wrong (w : Nat) (x1 : Int32) (x2 : Int32) (c : Nat) (hwc : zsn w c) (σ : zSg) (I : zTI) (J : zTJ) : qn_wrong w x1 x2 σ I J = (some (some (.int 0), ((zSC σ), (zsI I w 4 ((1 + (8 * x1)) + x2)), J))) := by
  rcases hwc with ⟨rfl, rfl⟩ | ⟨rfl, rfl⟩
  all_goals exact (zS_eq zG 0 62 0 _ _ _).trans rfl
set_option maxHeartbeats 16000000 in
set_option maxRecDepth 100000 in
theorem t_qn_skipBlanks (w : Nat) (c : Nat) (hwc : zsn w c) (σ : zSg) (I : zTI) (J : zTJ) : qn_skipBlanks w σ I J = (if (I w 2) < (I w 1) then (zif (zin (I w 2) 400) (if (I c ((I w 2).toNatClampNeg)) = 32 then (qn_skipBlanks w σ (zsI I w 2 ((I w 2) + 1)) J) else (some (none, ((zSC σ), I, J))))) else (some (none, ((zSC σ), I, J)))) := by
  rcases hwc with ⟨rfl, rfl⟩ | ⟨rfl, rfl⟩
  all_goals exact (zS_eq zG 0 63 0 _ _ _).trans rfl
set_option maxHeartbeats 16000000 in
set_option maxRecDepth 100000 in
theorem t_qn_sign (w : Nat) (c : Nat) (hwc : zsn w c) (σ : zSg) (I : zTI) (J : zTJ) : qn_sign w σ I J = (if (I w 2) < 0 then (some (some (.int (-1)), ((zSC σ), I, J))) else (if (I w 2) < (I w 1) then (zif (zin (I w 2) 400) (some (some (.int (I c ((I w 2).toNatClampNeg))), ((zSC σ), I, J)))) else (some (some (.int (-1)), ((zSC σ), I, J))))) := by
  rcases hwc with ⟨rfl, rfl⟩ | ⟨rfl, rfl⟩
  all_goals exact (zS_eq zG 0 64 0 _ _ _).trans rfl
set_option maxHeartbeats 16000000 in
set_option maxRecDepth 100000 in
theorem t_qn_isAtEnd (w : Nat) (c : Nat) (hwc : zsn w c) (σ : zSg) (I : zTI) (J : zTJ) : qn_isAtEnd w σ I J = (if (I w 2) < (I w 1) then (some (some (.int 0), ((zSC σ), I, J))) else (some (some (.int 1), ((zSC σ), I, J)))) := by
  rcases hwc with ⟨rfl, rfl⟩ | ⟨rfl, rfl⟩
  all_goals exact (zS_eq zG 0 65 0 _ _ _).trans rfl
set_option maxHeartbeats 16000000 in
set_option maxRecDepth 100000 in
theorem t_qn_isAtDigit (w : Nat) (c : Nat) (hwc : zsn w c) (σ : zSg) (I : zTI) (J : zTJ) : qn_isAtDigit w σ I J = (if (I w 2) < 0 then (some (some (.int 0), ((zSC σ), I, J))) else (if (I w 2) < (I w 1) then (zif (zin (I w 2) 400) (if (I c ((I w 2).toNatClampNeg)) < 48 then (some (some (.int 0), ((zSC σ), I, J))) else (zif (zin (I w 2) 400) (if (57 : Int32) < (I c ((I w 2).toNatClampNeg)) then (some (some (.int 0), ((zSC σ), I, J))) else (some (some (.int 1), ((zSC σ), I, J))))))) else (some (some (.int 0), ((zSC σ), I, J))))) := by
  rcases hwc with ⟨rfl, rfl⟩ | ⟨rfl, rfl⟩
  all_goals exact (zS_eq zG 0 66 0 _ _ _).trans rfl
set_option maxHeartbeats 16000000 in
set_option maxRecDepth 100000 in
theorem t_qn_takeByte (w : Nat) (c : Nat) (hwc : zsn w c) (σ : zSg) (I : zTI) (J : zTJ) : qn_takeByte w σ I J = (if (I w 2) < (I w 1) then (some (none, ((zSC σ), (zsI I w 2 ((I w 2) + 1)), J))) else (some (none, ((zSC σ), I, J)))) := by
  rcases hwc with ⟨rfl, rfl⟩ | ⟨rfl, rfl⟩
  all_goals exact (zS_eq zG 0 67 0 _ _ _).trans rfl
set_option maxHeartbeats 16000000 in
set_option maxRecDepth 100000 in
theorem t_qn_takeSign (w : Nat) (c : Nat) (hwc : zsn w c) (σ : zSg) (I : zTI) (J : zTJ) : qn_takeSign w σ I J = (zkV (qn_takeByte w σ I J) (zSC σ) (fun I1 J2 => (zkV (qn_skipBlanks w σ I1 J2) (zSC σ) (fun I3 J4 => (some (none, ((zSC σ), I3, J4))))))) := by
  rcases hwc with ⟨rfl, rfl⟩ | ⟨rfl, rfl⟩
  all_goals exact (zS_eq zG 1 68 0 _ _ _).trans rfl
set_option maxHeartbeats 16000000 in
set_option maxRecDepth 100000 in
theorem t_qn_tookSign (w : Nat) (x1 : Int32) (c : Nat) (hwc : zsn w c) (σ : zSg) (I : zTI) (J : zTJ) : qn_tookSign w x1 σ I J = (zkI (qn_sign w σ I J) (zSC σ) (fun r3 I1 J2 => (if r3 = x1 then (zkV (qn_takeSign w σ I1 J2) (zSC σ) (fun I4 J5 => (some (some (.int 1), ((zSC σ), I4, J5))))) else (some (some (.int 0), ((zSC σ), I1, J2)))))) := by
  rcases hwc with ⟨rfl, rfl⟩ | ⟨rfl, rfl⟩
  all_goals exact (zS_eq zG 2 69 0 _ _ _).trans rfl
set_option maxHeartbeats 16000000 in
set_option maxRecDepth 100000 in
theorem t_qn_readNumber (w : Nat) (x1 : Int32) (x2 : Int32) (c : Nat) (hwc : zsn w c) (σ : zSg) (I : zTI) (J : zTJ) : qn_readNumber w x1 x2 σ I J = (qn_readNumber_13 w x1 x2 (I w 2) 0 σ (zsI I w 3 0) J) := by
  rcases hwc with ⟨rfl, rfl⟩ | ⟨rfl, rfl⟩
  all_goals exact (zS_eq zG 1 70 0 _ _ _).trans rfl
set_option maxHeartbeats 16000000 in
set_option maxRecDepth 100000 in
theorem t_qn_readNumber_13 (w : Nat) (x1 : Int32) (x2 : Int32) (x3 : Int32) (x4 : Int32) (c : Nat) (hwc : zsn w c) (σ : zSg) (I : zTI) (J : zTJ) : qn_readNumber_13 w x1 x2 x3 x4 σ I J = (if (I w 2) < (I w 1) then (zkI (qn_isAtDigit w σ I J) (zSC σ) (fun r3 I1 J2 => (if r3 = 0 then (if x4 = 0 then (zkI (qn_wrong w x3 0 σ I1 J2) (zSC σ) (fun r6 I4 J5 => (zif (zbo r6) (some (some (.int r6), ((zSC σ), I4, J5)))))) else (if (5 : Int32) < x4 then (zkI (qn_wrong w x3 1 σ I1 J2) (zSC σ) (fun r9 I7 J8 => (zif (zbo r9) (some (some (.int r9), ((zSC σ), I7, J8)))))) else (if (I1 w 3) < x1 then (zkI (qn_wrong w x3 1 σ I1 J2) (zSC σ) (fun r12 I10 J11 => (zif (zbo r12) (some (some (.int r12), ((zSC σ), I10, J11)))))) else (if x2 < (I1 w 3) then (zkI (qn_wrong w x3 1 σ I1 J2) (zSC σ) (fun r15 I13 J14 => (zif (zbo r15) (some (some (.int r15), ((zSC σ), I13, J14)))))) else (zkV (qn_skipBlanks w σ I1 J2) (zSC σ) (fun I16 J17 => (some (some (.int 1), ((zSC σ), I16, J17))))))))) else (if x4 < 5 then (zif (zin (I1 w 2) 400) (qn_readNumber_13 w x1 x2 x3 (x4 + 1) σ (zsI (zsI I1 w 3 ((((I1 w 3) * 10) + (I1 c ((I1 w 2).toNatClampNeg))) - 48)) w 2 ((I1 w 2) + 1)) J2)) else (qn_readNumber_13 w x1 x2 x3 (x4 + 1) σ (zsI I1 w 2 ((I1 w 2) + 1)) J2))))) else (if x4 = 0 then (zkI (qn_wrong w x3 0 σ I J) (zSC σ) (fun r20 I18 J19 => (zif (zbo r20) (some (some (.int r20), ((zSC σ), I18, J19)))))) else (if (5 : Int32) < x4 then (zkI (qn_wrong w x3 1 σ I J) (zSC σ) (fun r23 I21 J22 => (zif (zbo r23) (some (some (.int r23), ((zSC σ), I21, J22)))))) else (if (I w 3) < x1 then (zkI (qn_wrong w x3 1 σ I J) (zSC σ) (fun r26 I24 J25 => (zif (zbo r26) (some (some (.int r26), ((zSC σ), I24, J25)))))) else (if x2 < (I w 3) then (zkI (qn_wrong w x3 1 σ I J) (zSC σ) (fun r29 I27 J28 => (zif (zbo r29) (some (some (.int r29), ((zSC σ), I27, J28)))))) else (zkV (qn_skipBlanks w σ I J) (zSC σ) (fun I30 J31 => (some (some (.int 1), ((zSC σ), I30, J31)))))))))) := by
  rcases hwc with ⟨rfl, rfl⟩ | ⟨rfl, rfl⟩
  all_goals exact (zS_eq zG 1 70 13 _ _ _).trans rfl
set_option maxHeartbeats 16000000 in
set_option maxRecDepth 100000 in
theorem t_qn_wordEnd (w : Nat) (c : Nat) (hwc : zsn w c) (σ : zSg) (I : zTI) (J : zTJ) : qn_wordEnd w σ I J = (qn_wordEnd_5 w (I w 2) σ I J) := by
  rcases hwc with ⟨rfl, rfl⟩ | ⟨rfl, rfl⟩
  all_goals exact (zS_eq zG 0 71 0 _ _ _).trans rfl
set_option maxHeartbeats 16000000 in
set_option maxRecDepth 100000 in
theorem t_qn_wordEnd_5 (w : Nat) (x1 : Int32) (c : Nat) (hwc : zsn w c) (σ : zSg) (I : zTI) (J : zTJ) : qn_wordEnd_5 w x1 σ I J = (if x1 < (I w 1) then (zif (zin x1 400) (if (I c x1.toNatClampNeg) < 97 then (some (some (.int x1), ((zSC σ), I, J))) else (zif (zin x1 400) (if (122 : Int32) < (I c x1.toNatClampNeg) then (some (some (.int x1), ((zSC σ), I, J))) else (qn_wordEnd_5 w (x1 + 1) σ I J))))) else (some (some (.int x1), ((zSC σ), I, J)))) := by
  rcases hwc with ⟨rfl, rfl⟩ | ⟨rfl, rfl⟩
  all_goals exact (zS_eq zG 0 71 5 _ _ _).trans rfl
set_option maxHeartbeats 16000000 in
set_option maxRecDepth 100000 in
theorem t_qn_wordAmong (w : Nat) (x1 : Nat) (c : Nat) (hwc : zsn w c) (σ : zSg) (I : zTI) (J : zTJ) : qn_wordAmong w x1 σ I J = (zkI (qn_wordEnd w σ I J) (zSC σ) (fun r3 I1 J2 => (qn_wordAmong_16 w x1 r3 0 (I1 w 2) 0 σ I1 J2))) := by
  rcases hwc with ⟨rfl, rfl⟩ | ⟨rfl, rfl⟩
  all_goals exact (zS_eq zG 5 72 0 _ _ _).trans rfl
set_option maxHeartbeats 16000000 in
set_option maxRecDepth 100000 in
theorem t_qn_wordAmong_16 (w : Nat) (x1 : Nat) (x2 : Int32) (x3 : Int32) (x4 : Int32) (x5 : Int32) (c : Nat) (hwc : zsn w c) (σ : zSg) (I : zTI) (J : zTJ) : qn_wordAmong_16 w x1 x2 x3 x4 x5 σ I J = (zif (Nat.blt x1 7) (if Int32.ofNat (zsl x1) < x5 then (some (some (.int (-1)), ((zSC σ), I, J))) else (if (I w 2) < x2 then (zif (Nat.blt x1 7) (if x5 < Int32.ofNat (zsl x1) then (zif (Nat.blt x1 7) (zif (zin x5 (zsl x1)) (if zch x1 x5.toNatClampNeg = 32 then (if x4 = x2 then (some (some (.int x3), ((zSC σ), I, J))) else (qn_wordAmong_16 w x1 x2 (x3 + 1) (I w 2) (x5 + 1) σ I J)) else (if x4 < 0 then (qn_wordAmong_16 w x1 x2 x3 (-1) (x5 + 1) σ I J) else (if x4 < x2 then (zif (zin x4 400) (if (I c x4.toNatClampNeg) = zch x1 x5.toNatClampNeg then (qn_wordAmong_16 w x1 x2 x3 (x4 + 1) (x5 + 1) σ I J) else (qn_wordAmong_16 w x1 x2 x3 (-1) (x5 + 1) σ I J))) else (qn_wordAmong_16 w x1 x2 x3 (-1) (x5 + 1) σ I J)))))) else (if x4 = x2 then (some (some (.int x3), ((zSC σ), I, J))) else (qn_wordAmong_16 w x1 x2 (x3 + 1) (I w 2) (x5 + 1) σ I J)))) else (some (some (.int (-1)), ((zSC σ), I, J)))))) := by
  rcases hwc with ⟨rfl, rfl⟩ | ⟨rfl, rfl⟩
  all_goals exact (zS_eq zG 5 72 16 _ _ _).trans rfl
set_option maxHeartbeats 16000000 in
set_option maxRecDepth 100000 in
theorem t_qn_takeWord (w : Nat) (c : Nat) (hwc : zsn w c) (σ : zSg) (I : zTI) (J : zTJ) : qn_takeWord w σ I J = (zkI (qn_wordEnd w σ I J) (zSC σ) (fun r3 I1 J2 => (zkV (qn_skipBlanks w σ (zsI I1 w 2 r3) J2) (zSC σ) (fun I4 J5 => (some (none, ((zSC σ), I4, J5))))))) := by
  rcases hwc with ⟨rfl, rfl⟩ | ⟨rfl, rfl⟩
  all_goals exact (zS_eq zG 1 73 0 _ _ _).trans rfl
set_option maxHeartbeats 16000000 in
set_option maxRecDepth 100000 in
theorem t_qn_tookWord (w : Nat) (x1 : Nat) (c : Nat) (hwc : zsn w c) (σ : zSg) (I : zTI) (J : zTJ) : qn_tookWord w x1 σ I J = (zkI (qn_wordAmong w x1 σ I J) (zSC σ) (fun r3 I1 J2 => (if r3 = 0 then (zkV (qn_takeWord w σ I1 J2) (zSC σ) (fun I4 J5 => (some (some (.int 1), ((zSC σ), I4, J5))))) else (some (some (.int 0), ((zSC σ), I1, J2)))))) := by
  rcases hwc with ⟨rfl, rfl⟩ | ⟨rfl, rfl⟩
  all_goals exact (zS_eq zG 6 74 0 _ _ _).trans rfl
