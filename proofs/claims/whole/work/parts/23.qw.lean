/-! ===== trees (printed by gen_tree.py) ===== -/
set_option maxHeartbeats 16000000 in
set_option maxRecDepth 100000 in
theorem t_qw_cell (w : Nat) (x1 : Int32) (x2 : Int32) (c : Nat) (hwc : zwc w c) (σ : zSg) (I : zTI) (J : zTJ) : qw_cell w x1 x2 σ I J = (if x1 + x2 < 0 then (some (some (.int 0), ((zSC σ), I, J))) else (if x1 + x2 < 251 then (zif (zin (x1 + x2) 251) (some (some (.int (I c ((x1 + x2).toNatClampNeg))), ((zSC σ), I, J)))) else (some (some (.int 0), ((zSC σ), I, J))))) := by
  rcases hwc with ⟨rfl, rfl⟩ | ⟨rfl, rfl⟩ | ⟨rfl, rfl⟩
  all_goals exact (zS_eq zG 0 77 0 _ _ _).trans rfl
set_option maxHeartbeats 16000000 in
set_option maxRecDepth 100000 in
theorem t_qw_hasBarge (w : Nat) (x1 : Int32) (c : Nat) (hwc : zwc w c) (σ : zSg) (I : zTI) (J : zTJ) : qw_hasBarge w x1 σ I J = (if x1 < 0 then (some (some (.int 0), ((zSC σ), I, J))) else (if x1 < (I c 84) then (some (some (.int 1), ((zSC σ), I, J))) else (some (some (.int 0), ((zSC σ), I, J))))) := by
  rcases hwc with ⟨rfl, rfl⟩ | ⟨rfl, rfl⟩ | ⟨rfl, rfl⟩
  all_goals exact (zS_eq zG 0 78 0 _ _ _).trans rfl
set_option maxHeartbeats 16000000 in
set_option maxRecDepth 100000 in
theorem t_qw_hasBook (w : Nat) (x1 : Int32) (c : Nat) (hwc : zwc w c) (σ : zSg) (I : zTI) (J : zTJ) : qw_hasBook w x1 σ I J = (if x1 < 0 then (some (some (.int 0), ((zSC σ), I, J))) else (if x1 < (I c 85) then (some (some (.int 1), ((zSC σ), I, J))) else (some (some (.int 0), ((zSC σ), I, J))))) := by
  rcases hwc with ⟨rfl, rfl⟩ | ⟨rfl, rfl⟩ | ⟨rfl, rfl⟩
  all_goals exact (zS_eq zG 0 79 0 _ _ _).trans rfl
set_option maxHeartbeats 16000000 in
set_option maxRecDepth 100000 in
theorem t_qw_hasStop (w : Nat) (x1 : Int32) (c : Nat) (hwc : zwc w c) (σ : zSg) (I : zTI) (J : zTJ) : qw_hasStop w x1 σ I J = (if x1 < 0 then (some (some (.int 0), ((zSC σ), I, J))) else (if x1 < (I c 86) then (some (some (.int 1), ((zSC σ), I, J))) else (some (some (.int 0), ((zSC σ), I, J))))) := by
  rcases hwc with ⟨rfl, rfl⟩ | ⟨rfl, rfl⟩ | ⟨rfl, rfl⟩
  all_goals exact (zS_eq zG 0 80 0 _ _ _).trans rfl
set_option maxHeartbeats 16000000 in
set_option maxRecDepth 100000 in
theorem t_qw_hasReader (w : Nat) (x1 : Int32) (c : Nat) (hwc : zwc w c) (σ : zSg) (I : zTI) (J : zTJ) : qw_hasReader w x1 σ I J = (if x1 < 0 then (some (some (.int 0), ((zSC σ), I, J))) else (if x1 < (I c 87) then (some (some (.int 1), ((zSC σ), I, J))) else (some (some (.int 0), ((zSC σ), I, J))))) := by
  rcases hwc with ⟨rfl, rfl⟩ | ⟨rfl, rfl⟩ | ⟨rfl, rfl⟩
  all_goals exact (zS_eq zG 0 81 0 _ _ _).trans rfl
set_option maxHeartbeats 16000000 in
set_option maxRecDepth 100000 in
theorem t_qw_hasHole (w : Nat) (x1 : Int32) (c : Nat) (hwc : zwc w c) (σ : zSg) (I : zTI) (J : zTJ) : qw_hasHole w x1 σ I J = (if x1 < 0 then (some (some (.int 0), ((zSC σ), I, J))) else (if x1 < (I c 88) then (some (some (.int 1), ((zSC σ), I, J))) else (some (some (.int 0), ((zSC σ), I, J))))) := by
  rcases hwc with ⟨rfl, rfl⟩ | ⟨rfl, rfl⟩ | ⟨rfl, rfl⟩
  all_goals exact (zS_eq zG 0 82 0 _ _ _).trans rfl
set_option maxHeartbeats 16000000 in
set_option maxRecDepth 100000 in
theorem t_qw_hasShelf (w : Nat) (x1 : Int32) (x2 : Int32) (c : Nat) (hwc : zwc w c) (σ : zSg) (I : zTI) (J : zTJ) : qw_hasShelf w x1 x2 σ I J = (zkI (qw_hasBarge w x1 σ I J) (zSC σ) (fun r3 I1 J2 => (if r3 = 0 then (some (some (.int 0), ((zSC σ), I1, J2))) else (if x2 < 0 then (some (some (.int 0), ((zSC σ), I1, J2))) else (zif (zin (89 + x1) 251) (if x2 < (I1 c ((89 + x1).toNatClampNeg)) then (some (some (.int 1), ((zSC σ), I1, J2))) else (some (some (.int 0), ((zSC σ), I1, J2))))))))) := by
  rcases hwc with ⟨rfl, rfl⟩ | ⟨rfl, rfl⟩ | ⟨rfl, rfl⟩
  all_goals exact (zS_eq zG 1 83 0 _ _ _).trans rfl
set_option maxHeartbeats 16000000 in
set_option maxRecDepth 100000 in
theorem t_qw_isFrom (w : Nat) (x1 : Int32) (x2 : Int32) (c : Nat) (hwc : zwc w c) (σ : zSg) (I : zTI) (J : zTJ) : qw_isFrom w x1 x2 σ I J = (zkI (qw_hasBarge w x1 σ I J) (zSC σ) (fun r3 I1 J2 => (if r3 = 0 then (some (some (.int 0), ((zSC σ), I1, J2))) else (zkI (qw_hasStop w x2 σ I1 J2) (zSC σ) (fun r6 I4 J5 => (if r6 = 0 then (some (some (.int 0), ((zSC σ), I4, J5))) else (zif (zin (1 + x1) 251) (if x2 < (I4 c ((1 + x1).toNatClampNeg)) then (some (some (.int 0), ((zSC σ), I4, J5))) else (some (some (.int 1), ((zSC σ), I4, J5))))))))))) := by
  rcases hwc with ⟨rfl, rfl⟩ | ⟨rfl, rfl⟩ | ⟨rfl, rfl⟩
  all_goals exact (zS_eq zG 1 84 0 _ _ _).trans rfl
set_option maxHeartbeats 16000000 in
set_option maxRecDepth 100000 in
theorem t_qw_bargesMeet (w : Nat) (c : Nat) (hwc : zwc w c) (σ : zSg) (I : zTI) (J : zTJ) : qw_bargesMeet w σ I J = (if (I c 84) = 2 then (if (I c 1) = (I c 2) then (some (some (.int 1), ((zSC σ), I, J))) else (some (some (.int 0), ((zSC σ), I, J)))) else (some (some (.int 0), ((zSC σ), I, J)))) := by
  rcases hwc with ⟨rfl, rfl⟩ | ⟨rfl, rfl⟩ | ⟨rfl, rfl⟩
  all_goals exact (zS_eq zG 0 85 0 _ _ _).trans rfl
set_option maxHeartbeats 16000000 in
set_option maxRecDepth 100000 in
theorem t_qw_depthOf (w : Nat) (x1 : Int32) (c : Nat) (hwc : zwc w c) (σ : zSg) (I : zTI) (J : zTJ) : qw_depthOf w x1 σ I J = (zkI (qw_hasStop w x1 σ I J) (zSC σ) (fun r3 I1 J2 => (if r3 = 0 then (some (some (.int 0), ((zSC σ), I1, J2))) else (zif (zin ((121 + (x1 * 4)) + (((I1 c 0) / 90) - ((I1 c 0) / 90) / 4 * 4)) 251) (some (some (.int (I1 c (((121 + (x1 * 4)) + (((I1 c 0) / 90) - ((I1 c 0) / 90) / 4 * 4)).toNatClampNeg))), ((zSC σ), I1, J2))))))) := by
  rcases hwc with ⟨rfl, rfl⟩ | ⟨rfl, rfl⟩ | ⟨rfl, rfl⟩
  all_goals exact (zS_eq zG 1 86 0 _ _ _).trans rfl
set_option maxHeartbeats 16000000 in
set_option maxRecDepth 100000 in
theorem t_qw_coins (w : Nat) (x1 : Int32) (x2 : Int32) (c : Nat) (hwc : zwc w c) (σ : zSg) (I : zTI) (J : zTJ) : qw_coins w x1 x2 σ I J = (zkI (qw_cell w 171 ((x1 * 12) + x2) σ I J) (zSC σ) (fun r3 I1 J2 => (some (some (.int r3), ((zSC σ), I1, J2))))) := by
  rcases hwc with ⟨rfl, rfl⟩ | ⟨rfl, rfl⟩ | ⟨rfl, rfl⟩
  all_goals exact (zS_eq zG 1 87 0 _ _ _).trans rfl
set_option maxHeartbeats 16000000 in
set_option maxRecDepth 100000 in
theorem t_qw_heavy (w : Nat) (x1 : Int32) (c : Nat) (hwc : zwc w c) (σ : zSg) (I : zTI) (J : zTJ) : qw_heavy w x1 σ I J = (zkI (qw_cell w 97 x1 σ I J) (zSC σ) (fun r3 I1 J2 => (zkI (qw_cell w 35 x1 σ I1 J2) (zSC σ) (fun r6 I4 J5 => (some (some (.int (r3 + r6)), ((zSC σ), I4, J5))))))) := by
  rcases hwc with ⟨rfl, rfl⟩ | ⟨rfl, rfl⟩ | ⟨rfl, rfl⟩
  all_goals exact (zS_eq zG 1 88 0 _ _ _).trans rfl
set_option maxHeartbeats 16000000 in
set_option maxRecDepth 100000 in
theorem t_qw_arm (w : Nat) (x1 : Int32) (x2 : Int32) (c : Nat) (hwc : zwc w c) (σ : zSg) (I : zTI) (J : zTJ) : qw_arm w x1 x2 σ I J = (zkI (qw_cell w 89 x1 σ I J) (zSC σ) (fun r3 I1 J2 => (some (some (.int (((2 * x2) - r3) + 1)), ((zSC σ), I1, J2))))) := by
  rcases hwc with ⟨rfl, rfl⟩ | ⟨rfl, rfl⟩ | ⟨rfl, rfl⟩
  all_goals exact (zS_eq zG 1 89 0 _ _ _).trans rfl
set_option maxHeartbeats 16000000 in
set_option maxRecDepth 100000 in
theorem t_qw_shelfOf (w : Nat) (x1 : Int32) (x2 : Int32) (c : Nat) (hwc : zwc w c) (σ : zSg) (I : zTI) (J : zTJ) : qw_shelfOf w x1 x2 σ I J = (zkI (qw_cell w 89 x1 σ I J) (zSC σ) (fun r3 I1 J2 => (some (some (.int (if (r3 - 1) < x2 then (r3 - 1) else x2)), ((zSC σ), I1, J2))))) := by
  rcases hwc with ⟨rfl, rfl⟩ | ⟨rfl, rfl⟩ | ⟨rfl, rfl⟩
  all_goals exact (zS_eq zG 1 90 0 _ _ _).trans rfl
set_option maxHeartbeats 16000000 in
set_option maxRecDepth 100000 in
theorem t_qw_loadOf (w : Nat) (x1 : Int32) (c : Nat) (hwc : zwc w c) (σ : zSg) (I : zTI) (J : zTJ) : qw_loadOf w x1 σ I J = (zkI (qw_cell w 91 x1 σ I J) (zSC σ) (fun r3 I1 J2 => (zkI (qw_cell w 3 x1 σ I1 J2) (zSC σ) (fun r6 I4 J5 => (qw_loadOf_17 w x1 (r3 + r6) 0 σ I4 J5))))) := by
  rcases hwc with ⟨rfl, rfl⟩ | ⟨rfl, rfl⟩ | ⟨rfl, rfl⟩
  all_goals exact (zS_eq zG 1 91 0 _ _ _).trans rfl
set_option maxHeartbeats 16000000 in
set_option maxRecDepth 100000 in
theorem t_qw_loadOf_17 (w : Nat) (x1 : Int32) (x2 : Int32) (x3 : Int32) (c : Nat) (hwc : zwc w c) (σ : zSg) (I : zTI) (J : zTJ) : qw_loadOf_17 w x1 x2 x3 σ I J = (if x3 < (I c 85) then (zif (zin (47 + x3) 251) (if (I c ((47 + x3).toNatClampNeg)) = 100 + x1 then (zif (zin (97 + x3) 251) (zif (zin (35 + x3) 251) (qw_loadOf_17 w x1 (x2 + ((I c ((97 + x3).toNatClampNeg)) + (I c ((35 + x3).toNatClampNeg)))) (x3 + 1) σ I J))) else (qw_loadOf_17 w x1 x2 (x3 + 1) σ I J))) else (some (some (.int x2), ((zSC σ), I, J)))) := by
  rcases hwc with ⟨rfl, rfl⟩ | ⟨rfl, rfl⟩ | ⟨rfl, rfl⟩
  all_goals exact (zS_eq zG 1 91 17 _ _ _).trans rfl
set_option maxHeartbeats 16000000 in
set_option maxRecDepth 100000 in
theorem t_qw_tiltOf (w : Nat) (x1 : Int32) (c : Nat) (hwc : zwc w c) (σ : zSg) (I : zTI) (J : zTJ) : qw_tiltOf w x1 σ I J = (zkI (qw_cell w 89 x1 σ I J) (zSC σ) (fun r3 I1 J2 => (qw_tiltOf_15 w x1 0 (r3 - 1) 0 σ I1 J2))) := by
  rcases hwc with ⟨rfl, rfl⟩ | ⟨rfl, rfl⟩ | ⟨rfl, rfl⟩
  all_goals exact (zS_eq zG 1 92 0 _ _ _).trans rfl
set_option maxHeartbeats 16000000 in
set_option maxRecDepth 100000 in
theorem t_qw_tiltOf_15 (w : Nat) (x1 : Int32) (x2 : Int32) (x3 : Int32) (x4 : Int32) (c : Nat) (hwc : zwc w c) (σ : zSg) (I : zTI) (J : zTJ) : qw_tiltOf_15 w x1 x2 x3 x4 σ I J = (if x4 < (I c 85) then (zif (zin (47 + x4) 251) (if (I c ((47 + x4).toNatClampNeg)) = 100 + x1 then (zif (zin (97 + x4) 251) (zif (zin (35 + x4) 251) (zif (zin (23 + x4) 251) (qw_tiltOf_15 w x1 (x2 + (((I c ((97 + x4).toNatClampNeg)) + (I c ((35 + x4).toNatClampNeg))) * ((2 * (I c ((23 + x4).toNatClampNeg))) - x3))) x3 (x4 + 1) σ I J)))) else (qw_tiltOf_15 w x1 x2 x3 (x4 + 1) σ I J))) else (some (some (.int x2), ((zSC σ), I, J)))) := by
  rcases hwc with ⟨rfl, rfl⟩ | ⟨rfl, rfl⟩ | ⟨rfl, rfl⟩
  all_goals exact (zS_eq zG 1 92 15 _ _ _).trans rfl
set_option maxHeartbeats 16000000 in
set_option maxRecDepth 100000 in
theorem t_qw_draughtBy (x0 : Int32) (x1 : Int32) (x2 : Int32) (x3 : Int32) (w : Nat) (c : Nat) (hwc : zwc w c) (σ : zSg) (I : zTI) (J : zTJ) : qw_draughtBy x0 x1 x2 x3 σ I J = (if x2 < 1 then (some (some (.int 0), ((zSC σ), I, J))) else (if x3 < 1 then (some (some (.int 0), ((zSC σ), I, J))) else (if x2 = 0 then none else (if x3 = 0 then none else (some (some (.int ((((x0 + x2) - 1) / x2) + ((if 0 ≤ x1 then x1 else 0 - x1) / x3))), ((zSC σ), I, J))))))) := by
  rcases hwc with ⟨rfl, rfl⟩ | ⟨rfl, rfl⟩ | ⟨rfl, rfl⟩
  all_goals exact (zS_eq zG 1 93 0 _ _ _).trans rfl
set_option maxHeartbeats 16000000 in
set_option maxRecDepth 100000 in
theorem t_qw_draughtOf (w : Nat) (x1 : Int32) (c : Nat) (hwc : zwc w c) (σ : zSg) (I : zTI) (J : zTJ) : qw_draughtOf w x1 σ I J = (zkI (qw_loadOf w x1 σ I J) (zSC σ) (fun r3 I1 J2 => (zkI (qw_tiltOf w x1 σ I1 J2) (zSC σ) (fun r6 I4 J5 => (zkI (qw_cell w 93 x1 σ I4 J5) (zSC σ) (fun r9 I7 J8 => (zkI (qw_cell w 95 x1 σ I7 J8) (zSC σ) (fun r12 I10 J11 => (zkI (qw_draughtBy r3 r6 r9 r12 σ I10 J11) (zSC σ) (fun r15 I13 J14 => (some (some (.int r15), ((zSC σ), I13, J14))))))))))))) := by
  rcases hwc with ⟨rfl, rfl⟩ | ⟨rfl, rfl⟩ | ⟨rfl, rfl⟩
  all_goals exact (zS_eq zG 2 94 0 _ _ _).trans rfl
set_option maxHeartbeats 16000000 in
set_option maxRecDepth 100000 in
theorem t_qw_passes (w : Nat) (x1 : Int32) (x2 : Int32) (c : Nat) (hwc : zwc w c) (σ : zSg) (I : zTI) (J : zTJ) : qw_passes w x1 x2 σ I J = (zkI (qw_depthOf w x2 σ I J) (zSC σ) (fun r3 I1 J2 => (zkI (qw_draughtOf w x1 σ I1 J2) (zSC σ) (fun r6 I4 J5 => (if r3 < r6 then (some (some (.int 0), ((zSC σ), I4, J5))) else (some (some (.int 1), ((zSC σ), I4, J5)))))))) := by
  rcases hwc with ⟨rfl, rfl⟩ | ⟨rfl, rfl⟩ | ⟨rfl, rfl⟩
  all_goals exact (zS_eq zG 3 95 0 _ _ _).trans rfl
set_option maxHeartbeats 16000000 in
set_option maxRecDepth 100000 in
theorem t_qw_bargeOf (w : Nat) (x1 : Int32) (c : Nat) (hwc : zwc w c) (σ : zSg) (I : zTI) (J : zTJ) : qw_bargeOf w x1 σ I J = (zkI (qw_hasBook w x1 σ I J) (zSC σ) (fun r3 I1 J2 => (if r3 = 0 then (some (some (.int (-1)), ((zSC σ), I1, J2))) else (zif (zin (47 + x1) 251) (if (I1 c ((47 + x1).toNatClampNeg)) = 100 then (some (some (.int ((I1 c ((47 + x1).toNatClampNeg)) - 100)), ((zSC σ), I1, J2))) else (if (I1 c ((47 + x1).toNatClampNeg)) = 101 then (some (some (.int ((I1 c ((47 + x1).toNatClampNeg)) - 100)), ((zSC σ), I1, J2))) else (some (some (.int (-1)), ((zSC σ), I1, J2))))))))) := by
  rcases hwc with ⟨rfl, rfl⟩ | ⟨rfl, rfl⟩ | ⟨rfl, rfl⟩
  all_goals exact (zS_eq zG 1 96 0 _ _ _).trans rfl
set_option maxHeartbeats 16000000 in
set_option maxRecDepth 100000 in
theorem t_qw_booksAt (w : Nat) (x1 : Int32) (c : Nat) (hwc : zwc w c) (σ : zSg) (I : zTI) (J : zTJ) : qw_booksAt w x1 σ I J = (qw_booksAt_4 w x1 0 0 σ I J) := by
  rcases hwc with ⟨rfl, rfl⟩ | ⟨rfl, rfl⟩ | ⟨rfl, rfl⟩
  all_goals exact (zS_eq zG 0 97 0 _ _ _).trans rfl
set_option maxHeartbeats 16000000 in
set_option maxRecDepth 100000 in
theorem t_qw_booksAt_4 (w : Nat) (x1 : Int32) (x2 : Int32) (x3 : Int32) (c : Nat) (hwc : zwc w c) (σ : zSg) (I : zTI) (J : zTJ) : qw_booksAt_4 w x1 x2 x3 σ I J = (if x3 < (I c 85) then (zif (zin (47 + x3) 251) (if (I c ((47 + x3).toNatClampNeg)) = x1 then (qw_booksAt_4 w x1 (x2 ||| (1 <<< (x3 &&& 31))) (x3 + 1) σ I J) else (qw_booksAt_4 w x1 x2 (x3 + 1) σ I J))) else (some (some (.int x2), ((zSC σ), I, J)))) := by
  rcases hwc with ⟨rfl, rfl⟩ | ⟨rfl, rfl⟩ | ⟨rfl, rfl⟩
  all_goals exact (zS_eq zG 0 97 4 _ _ _).trans rfl
set_option maxHeartbeats 16000000 in
set_option maxRecDepth 100000 in
theorem t_qw_readersAt (w : Nat) (x1 : Int32) (c : Nat) (hwc : zwc w c) (σ : zSg) (I : zTI) (J : zTJ) : qw_readersAt w x1 σ I J = (qw_readersAt_4 w x1 0 0 σ I J) := by
  rcases hwc with ⟨rfl, rfl⟩ | ⟨rfl, rfl⟩ | ⟨rfl, rfl⟩
  all_goals exact (zS_eq zG 0 98 0 _ _ _).trans rfl
set_option maxHeartbeats 16000000 in
set_option maxRecDepth 100000 in
theorem t_qw_readersAt_4 (w : Nat) (x1 : Int32) (x2 : Int32) (x3 : Int32) (c : Nat) (hwc : zwc w c) (σ : zSg) (I : zTI) (J : zTJ) : qw_readersAt_4 w x1 x2 x3 σ I J = (if x3 < (I c 87) then (zif (zin (153 + x3) 251) (if (I c ((153 + x3).toNatClampNeg)) = x1 then (qw_readersAt_4 w x1 (x2 ||| (1 <<< (x3 &&& 31))) (x3 + 1) σ I J) else (qw_readersAt_4 w x1 x2 (x3 + 1) σ I J))) else (some (some (.int x2), ((zSC σ), I, J)))) := by
  rcases hwc with ⟨rfl, rfl⟩ | ⟨rfl, rfl⟩ | ⟨rfl, rfl⟩
  all_goals exact (zS_eq zG 0 98 4 _ _ _).trans rfl
set_option maxHeartbeats 16000000 in
set_option maxRecDepth 100000 in
theorem t_qw_booksBetween (w : Nat) (x1 : Int32) (x2 : Int32) (c : Nat) (hwc : zwc w c) (σ : zSg) (I : zTI) (J : zTJ) : qw_booksBetween w x1 x2 σ I J = (qw_booksBetween_5 w x1 x2 0 0 σ I J) := by
  rcases hwc with ⟨rfl, rfl⟩ | ⟨rfl, rfl⟩ | ⟨rfl, rfl⟩
  all_goals exact (zS_eq zG 0 99 0 _ _ _).trans rfl
set_option maxHeartbeats 16000000 in
set_option maxRecDepth 100000 in
theorem t_qw_booksBetween_5 (w : Nat) (x1 : Int32) (x2 : Int32) (x3 : Int32) (x4 : Int32) (c : Nat) (hwc : zwc w c) (σ : zSg) (I : zTI) (J : zTJ) : qw_booksBetween_5 w x1 x2 x3 x4 σ I J = (if x4 < (I c 85) then (zif (zin (47 + x4) 251) (if (I c ((47 + x4).toNatClampNeg)) < x1 then (qw_booksBetween_5 w x1 x2 x3 (x4 + 1) σ I J) else (zif (zin (47 + x4) 251) (if x2 < (I c ((47 + x4).toNatClampNeg)) then (qw_booksBetween_5 w x1 x2 x3 (x4 + 1) σ I J) else (qw_booksBetween_5 w x1 x2 (x3 + 1) (x4 + 1) σ I J))))) else (some (some (.int x3), ((zSC σ), I, J)))) := by
  rcases hwc with ⟨rfl, rfl⟩ | ⟨rfl, rfl⟩ | ⟨rfl, rfl⟩
  all_goals exact (zS_eq zG 0 99 5 _ _ _).trans rfl
set_option maxHeartbeats 16000000 in
set_option maxRecDepth 100000 in
theorem t_qw_waitsFor (w : Nat) (x1 : Int32) (x2 : Int32) (c : Nat) (hwc : zwc w c) (σ : zSg) (I : zTI) (J : zTJ) : qw_waitsFor w x1 x2 σ I J = (zkI (qw_hasReader w x1 σ I J) (zSC σ) (fun r3 I1 J2 => (if r3 = 0 then (some (some (.int 0), ((zSC σ), I1, J2))) else (zif (zin (153 + x1) 251) (zkI (qw_cell w 1 x2 σ I1 J2) (zSC σ) (fun r6 I4 J5 => (if (I1 c ((153 + x1).toNatClampNeg)) = r6 then (zif (zin (11 + x1) 251) (if (I4 c ((11 + x1).toNatClampNeg)) = (-1) then (some (some (.int 1), ((zSC σ), I4, J5))) else (some (some (.int 0), ((zSC σ), I4, J5))))) else (some (some (.int 0), ((zSC σ), I4, J5)))))))))) := by
  rcases hwc with ⟨rfl, rfl⟩ | ⟨rfl, rfl⟩ | ⟨rfl, rfl⟩
  all_goals exact (zS_eq zG 1 100 0 _ _ _).trans rfl
set_option maxHeartbeats 16000000 in
set_option maxRecDepth 100000 in
theorem t_qw_keenestReader (w : Nat) (x1 : Int32) (x2 : Int32) (c : Nat) (hwc : zwc w c) (σ : zSg) (I : zTI) (J : zTJ) : qw_keenestReader w x1 x2 σ I J = (qw_keenestReader_8 w x1 x2 (-1) 0 0 σ I J) := by
  rcases hwc with ⟨rfl, rfl⟩ | ⟨rfl, rfl⟩ | ⟨rfl, rfl⟩
  all_goals exact (zS_eq zG 1 101 0 _ _ _).trans rfl
set_option maxHeartbeats 16000000 in
set_option maxRecDepth 100000 in
theorem t_qw_keenestReader_8 (w : Nat) (x1 : Int32) (x2 : Int32) (x3 : Int32) (x4 : Int32) (x5 : Int32) (c : Nat) (hwc : zwc w c) (σ : zSg) (I : zTI) (J : zTJ) : qw_keenestReader_8 w x1 x2 x3 x4 x5 σ I J = (if x5 < (I c 87) then (zkI (qw_hasBook w x1 σ I J) (zSC σ) (fun r3 I1 J2 => (if r3 = 0 then (some (some (.int x3), ((zSC σ), I1, J2))) else (zif (zin ((171 + (x5 * 12)) + x1) 251) (if x4 < (I1 c (((171 + (x5 * 12)) + x1).toNatClampNeg)) then (zif (zin (153 + x5) 251) (if (I1 c ((153 + x5).toNatClampNeg)) = x2 then (zif (zin (11 + x5) 251) (if (I1 c ((11 + x5).toNatClampNeg)) = (-1) then (qw_keenestReader_8 w x1 x2 x5 (I1 c (((171 + (x5 * 12)) + x1).toNatClampNeg)) (x5 + 1) σ I1 J2) else (qw_keenestReader_8 w x1 x2 x3 x4 (x5 + 1) σ I1 J2))) else (qw_keenestReader_8 w x1 x2 x3 x4 (x5 + 1) σ I1 J2))) else (qw_keenestReader_8 w x1 x2 x3 x4 (x5 + 1) σ I1 J2)))))) else (some (some (.int x3), ((zSC σ), I, J)))) := by
  rcases hwc with ⟨rfl, rfl⟩ | ⟨rfl, rfl⟩ | ⟨rfl, rfl⟩
  all_goals exact (zS_eq zG 1 101 8 _ _ _).trans rfl
set_option maxHeartbeats 16000000 in
set_option maxRecDepth 100000 in
theorem t_qw_canFetch (w : Nat) (x1 : Int32) (x2 : Int32) (c : Nat) (hwc : zwc w c) (σ : zSg) (I : zTI) (J : zTJ) : qw_canFetch w x1 x2 σ I J = (zkI (qw_hasBook w x1 σ I J) (zSC σ) (fun r3 I1 J2 => (if r3 = 0 then (some (some (.int 0), ((zSC σ), I1, J2))) else (zif (zin (47 + x1) 251) (zkI (qw_cell w 1 x2 σ I1 J2) (zSC σ) (fun r6 I4 J5 => (zkI (qw_hasReader w ((I1 c ((47 + x1).toNatClampNeg)) - 200) σ I4 J5) (zSC σ) (fun r9 I7 J8 => (if r9 = 0 then (if (I1 c ((47 + x1).toNatClampNeg)) = r6 then (some (some (.int 1), ((zSC σ), I7, J8))) else (some (some (.int 0), ((zSC σ), I7, J8)))) else (zif (zin (153 + ((I1 c ((47 + x1).toNatClampNeg)) - 200)) 251) (if (I7 c ((153 + ((I1 c ((47 + x1).toNatClampNeg)) - 200)).toNatClampNeg)) = r6 then (zif (zin (71 + x1) 251) (if (I7 c 0) < (I7 c ((71 + x1).toNatClampNeg)) then (some (some (.int 0), ((zSC σ), I7, J8))) else (some (some (.int 1), ((zSC σ), I7, J8))))) else (some (some (.int 0), ((zSC σ), I7, J8)))))))))))))) := by
  rcases hwc with ⟨rfl, rfl⟩ | ⟨rfl, rfl⟩ | ⟨rfl, rfl⟩
  all_goals exact (zS_eq zG 1 102 0 _ _ _).trans rfl
set_option maxHeartbeats 16000000 in
set_option maxRecDepth 100000 in
theorem t_qw_isOpen (w : Nat) (x1 : Int32) (c : Nat) (hwc : zwc w c) (σ : zSg) (I : zTI) (J : zTJ) : qw_isOpen w x1 σ I J = (zkI (qw_hasHole w x1 σ I J) (zSC σ) (fun r3 I1 J2 => (if r3 = 0 then (some (some (.int 0), ((zSC σ), I1, J2))) else (zif (zin (7 + x1) 251) (if (I1 c ((7 + x1).toNatClampNeg)) = 0 then (some (some (.int 1), ((zSC σ), I1, J2))) else (some (some (.int 0), ((zSC σ), I1, J2)))))))) := by
  rcases hwc with ⟨rfl, rfl⟩ | ⟨rfl, rfl⟩ | ⟨rfl, rfl⟩
  all_goals exact (zS_eq zG 1 103 0 _ _ _).trans rfl
set_option maxHeartbeats 16000000 in
set_option maxRecDepth 100000 in
theorem t_qw_fits (w : Nat) (x1 : Int32) (x2 : Int32) (c : Nat) (hwc : zwc w c) (σ : zSg) (I : zTI) (J : zTJ) : qw_fits w x1 x2 σ I J = (zkI (qw_bargeOf w x1 σ I J) (zSC σ) (fun r3 I1 J2 => (if r3 = (-1) then (some (some (.int 0), ((zSC σ), I1, J2))) else (zkI (qw_cell w 243 x2 σ I1 J2) (zSC σ) (fun r6 I4 J5 => (if r3 = r6 then (zkI (qw_cell w 97 x1 σ I4 J5) (zSC σ) (fun r9 I7 J8 => (zkI (qw_cell w 247 x2 σ I7 J8) (zSC σ) (fun r12 I10 J11 => (if r9 < r12 then (some (some (.int 0), ((zSC σ), I10, J11))) else (some (some (.int 1), ((zSC σ), I10, J11)))))))) else (some (some (.int 0), ((zSC σ), I4, J5))))))))) := by
  rcases hwc with ⟨rfl, rfl⟩ | ⟨rfl, rfl⟩ | ⟨rfl, rfl⟩
  all_goals exact (zS_eq zG 2 104 0 _ _ _).trans rfl
set_option maxHeartbeats 16000000 in
set_option maxRecDepth 100000 in
theorem t_qw_putAshore (w : Nat) (x1 : Int32) (x2 : Int32) (c : Nat) (hwc : zwc w c) (σ : zSg) (I : zTI) (J : zTJ) : qw_putAshore w x1 x2 σ I J = (zkI (qw_hasBook w x1 σ I J) (zSC σ) (fun r3 I1 J2 => (if r3 = 0 then (some (none, ((zSC σ), I1, J2))) else (zkI (qw_cell w 1 x2 σ I1 J2) (zSC σ) (fun r6 I4 J5 => (zif (zin (47 + x1) 251) (some (none, ((zSC σ), (zsI I4 c ((47 + x1).toNatClampNeg) r6), J5))))))))) := by
  rcases hwc with ⟨rfl, rfl⟩ | ⟨rfl, rfl⟩ | ⟨rfl, rfl⟩
  all_goals exact (zS_eq zG 1 105 0 _ _ _).trans rfl
set_option maxHeartbeats 16000000 in
set_option maxRecDepth 100000 in
theorem t_qw_giveTo (w : Nat) (x1 : Int32) (x2 : Int32) (x3 : Int32) (c : Nat) (hwc : zwc w c) (σ : zSg) (I : zTI) (J : zTJ) : qw_giveTo w x1 x2 x3 σ I J = (zkI (qw_hasReader w x1 σ I J) (zSC σ) (fun r3 I1 J2 => (if r3 = 0 then (some (none, ((zSC σ), I1, J2))) else (zkI (qw_hasBook w x2 σ I1 J2) (zSC σ) (fun r6 I4 J5 => (if r6 = 0 then (some (none, ((zSC σ), I4, J5))) else (zkI (qw_hasBarge w x3 σ I4 J5) (zSC σ) (fun r9 I7 J8 => (if r9 = 0 then (some (none, ((zSC σ), I7, J8))) else (zif (zin (47 + x2) 251) (zif (zin (165 + x1) 251) (zif (zin (71 + x2) 251) (zif (zin (59 + x2) 251) (zif (zin (59 + x2) 251) (zif (zin (11 + x1) 251) (zif (zin (17 + x1) 251) (zif (zin (17 + x1) 251) (zif (zin (5 + x3) 251) (zkI (qw_coins w x1 x2 σ (zsI (zsI (zsI (zsI (zsI I7 c ((47 + x2).toNatClampNeg) (200 + x1)) c ((71 + x2).toNatClampNeg) (((zsI I7 c ((47 + x2).toNatClampNeg) (200 + x1)) c 0) + ((zsI I7 c ((47 + x2).toNatClampNeg) (200 + x1)) c ((165 + x1).toNatClampNeg)))) c ((59 + x2).toNatClampNeg) (((zsI (zsI I7 c ((47 + x2).toNatClampNeg) (200 + x1)) c ((71 + x2).toNatClampNeg) (((zsI I7 c ((47 + x2).toNatClampNeg) (200 + x1)) c 0) + ((zsI I7 c ((47 + x2).toNatClampNeg) (200 + x1)) c ((165 + x1).toNatClampNeg)))) c ((59 + x2).toNatClampNeg)) + 1)) c ((11 + x1).toNatClampNeg) x2) c ((17 + x1).toNatClampNeg) (((zsI (zsI (zsI (zsI I7 c ((47 + x2).toNatClampNeg) (200 + x1)) c ((71 + x2).toNatClampNeg) (((zsI I7 c ((47 + x2).toNatClampNeg) (200 + x1)) c 0) + ((zsI I7 c ((47 + x2).toNatClampNeg) (200 + x1)) c ((165 + x1).toNatClampNeg)))) c ((59 + x2).toNatClampNeg) (((zsI (zsI I7 c ((47 + x2).toNatClampNeg) (200 + x1)) c ((71 + x2).toNatClampNeg) (((zsI I7 c ((47 + x2).toNatClampNeg) (200 + x1)) c 0) + ((zsI I7 c ((47 + x2).toNatClampNeg) (200 + x1)) c ((165 + x1).toNatClampNeg)))) c ((59 + x2).toNatClampNeg)) + 1)) c ((11 + x1).toNatClampNeg) x2) c ((17 + x1).toNatClampNeg)) + 1)) J8) (zSC σ) (fun r12 I10 J11 => (zif (zin (5 + x3) 251) (some (none, ((zSC σ), (zsI I10 c ((5 + x3).toNatClampNeg) (((zsI (zsI (zsI (zsI (zsI I7 c ((47 + x2).toNatClampNeg) (200 + x1)) c ((71 + x2).toNatClampNeg) (((zsI I7 c ((47 + x2).toNatClampNeg) (200 + x1)) c 0) + ((zsI I7 c ((47 + x2).toNatClampNeg) (200 + x1)) c ((165 + x1).toNatClampNeg)))) c ((59 + x2).toNatClampNeg) (((zsI (zsI I7 c ((47 + x2).toNatClampNeg) (200 + x1)) c ((71 + x2).toNatClampNeg) (((zsI I7 c ((47 + x2).toNatClampNeg) (200 + x1)) c 0) + ((zsI I7 c ((47 + x2).toNatClampNeg) (200 + x1)) c ((165 + x1).toNatClampNeg)))) c ((59 + x2).toNatClampNeg)) + 1)) c ((11 + x1).toNatClampNeg) x2) c ((17 + x1).toNatClampNeg) (((zsI (zsI (zsI (zsI I7 c ((47 + x2).toNatClampNeg) (200 + x1)) c ((71 + x2).toNatClampNeg) (((zsI I7 c ((47 + x2).toNatClampNeg) (200 + x1)) c 0) + ((zsI I7 c ((47 + x2).toNatClampNeg) (200 + x1)) c ((165 + x1).toNatClampNeg)))) c ((59 + x2).toNatClampNeg) (((zsI (zsI I7 c ((47 + x2).toNatClampNeg) (200 + x1)) c ((71 + x2).toNatClampNeg) (((zsI I7 c ((47 + x2).toNatClampNeg) (200 + x1)) c 0) + ((zsI I7 c ((47 + x2).toNatClampNeg) (200 + x1)) c ((165 + x1).toNatClampNeg)))) c ((59 + x2).toNatClampNeg)) + 1)) c ((11 + x1).toNatClampNeg) x2) c ((17 + x1).toNatClampNeg)) + 1)) c ((5 + x3).toNatClampNeg)) + r12)), J11)))))))))))))))))))))))) := by
  rcases hwc with ⟨rfl, rfl⟩ | ⟨rfl, rfl⟩ | ⟨rfl, rfl⟩
  all_goals exact (zS_eq zG 2 106 0 _ _ _).trans rfl
set_option maxHeartbeats 16000000 in
set_option maxRecDepth 100000 in
theorem t_qw_takeIn (w : Nat) (x1 : Int32) (x2 : Int32) (x3 : Int32) (c : Nat) (hwc : zwc w c) (σ : zSg) (I : zTI) (J : zTJ) : qw_takeIn w x1 x2 x3 σ I J = (zkI (qw_cell w 47 x1 σ I J) (zSC σ) (fun r3 I1 J2 => (zkI (qw_hasReader w (r3 - 200) σ I1 J2) (zSC σ) (fun r6 I4 J5 => (if r6 = 0 then (zkV (qw_putAboard w x1 x2 x3 σ I4 J5) (zSC σ) (fun I7 J8 => (some (none, ((zSC σ), I7, J8))))) else (zif (zin (11 + (r3 - 200)) 251) (zif (zin (35 + x1) 251) (zif (zin (159 + (r3 - 200)) 251) (zif (zin (35 + x1) 251) (zif (zin (71 + x1) 251) (zkV (qw_putAboard w x1 x2 x3 σ (zsI (zsI (zsI I4 c ((11 + (r3 - 200)).toNatClampNeg) (-1)) c ((35 + x1).toNatClampNeg) (if (((zsI I4 c ((11 + (r3 - 200)).toNatClampNeg) (-1)) c ((35 + x1).toNatClampNeg)) + ((zsI I4 c ((11 + (r3 - 200)).toNatClampNeg) (-1)) c ((159 + (r3 - 200)).toNatClampNeg))) < 9 then (((zsI I4 c ((11 + (r3 - 200)).toNatClampNeg) (-1)) c ((35 + x1).toNatClampNeg)) + ((zsI I4 c ((11 + (r3 - 200)).toNatClampNeg) (-1)) c ((159 + (r3 - 200)).toNatClampNeg))) else 9)) c ((71 + x1).toNatClampNeg) (-1)) J5) (zSC σ) (fun I9 J10 => (some (none, ((zSC σ), I9, J10))))))))))))))) := by
  rcases hwc with ⟨rfl, rfl⟩ | ⟨rfl, rfl⟩ | ⟨rfl, rfl⟩
  all_goals exact (zS_eq zG 2 107 0 _ _ _).trans rfl
set_option maxHeartbeats 16000000 in
set_option maxRecDepth 100000 in
theorem t_qw_putAboard (w : Nat) (x1 : Int32) (x2 : Int32) (x3 : Int32) (c : Nat) (hwc : zwc w c) (σ : zSg) (I : zTI) (J : zTJ) : qw_putAboard w x1 x2 x3 σ I J = (zkI (qw_hasBook w x1 σ I J) (zSC σ) (fun r3 I1 J2 => (if r3 = 0 then (some (none, ((zSC σ), I1, J2))) else (zif (zin (47 + x1) 251) (zif (zin (23 + x1) 251) (some (none, ((zSC σ), (zsI (zsI I1 c ((47 + x1).toNatClampNeg) (100 + x2)) c ((23 + x1).toNatClampNeg) x3), J2)))))))) := by
  rcases hwc with ⟨rfl, rfl⟩ | ⟨rfl, rfl⟩ | ⟨rfl, rfl⟩
  all_goals exact (zS_eq zG 1 108 0 _ _ _).trans rfl
set_option maxHeartbeats 16000000 in
set_option maxRecDepth 100000 in
theorem t_qw_passNight (w : Nat) (c : Nat) (hwc : zwc w c) (σ : zSg) (I : zTI) (J : zTJ) : qw_passNight w σ I J = (qw_passNight_22 w 0 σ (zsI I c 0 (if ((I c 0) + 1) < 9999 then ((I c 0) + 1) else 9999)) J) := by
  rcases hwc with ⟨rfl, rfl⟩ | ⟨rfl, rfl⟩ | ⟨rfl, rfl⟩
  all_goals exact (zS_eq zG 2 109 0 _ _ _).trans rfl
set_option maxHeartbeats 16000000 in
set_option maxRecDepth 100000 in
theorem t_qw_passNight_22 (w : Nat) (x1 : Int32) (c : Nat) (hwc : zwc w c) (σ : zSg) (I : zTI) (J : zTJ) : qw_passNight_22 w x1 σ I J = (if x1 < (I c 88) then (zif (zin (243 + x1) 251) (zkI (qw_isOpen w x1 σ I J) (zSC σ) (fun r3 I1 J2 => (if r3 = 0 then (qw_passNight_22 w (x1 + 1) σ I1 J2) else (zkI (qw_hasBarge w (I c ((243 + x1).toNatClampNeg)) σ I1 J2) (zSC σ) (fun r6 I4 J5 => (if r6 = 0 then (qw_passNight_22 w (x1 + 1) σ I4 J5) else (zif (zin (3 + (I c ((243 + x1).toNatClampNeg))) 251) (zif (zin (247 + x1) 251) (zif (zin (3 + (I c ((243 + x1).toNatClampNeg))) 251) (qw_passNight_22 w (x1 + 1) σ (zsI I4 c ((3 + (I c ((243 + x1).toNatClampNeg))).toNatClampNeg) (if ((I4 c ((3 + (I c ((243 + x1).toNatClampNeg))).toNatClampNeg)) + (I4 c ((247 + x1).toNatClampNeg))) < 9999 then ((I4 c ((3 + (I c ((243 + x1).toNatClampNeg))).toNatClampNeg)) + (I4 c ((247 + x1).toNatClampNeg))) else 9999)) J5))))))))))) else (some (none, ((zSC σ), I, J)))) := by
  rcases hwc with ⟨rfl, rfl⟩ | ⟨rfl, rfl⟩ | ⟨rfl, rfl⟩
  all_goals exact (zS_eq zG 2 109 22 _ _ _).trans rfl
set_option maxHeartbeats 16000000 in
set_option maxRecDepth 100000 in
theorem t_qw_canBeWetter (w : Nat) (x1 : Int32) (c : Nat) (hwc : zwc w c) (σ : zSg) (I : zTI) (J : zTJ) : qw_canBeWetter w x1 σ I J = (zkI (qw_bargeOf w x1 σ I J) (zSC σ) (fun r3 I1 J2 => (if r3 = (-1) then (some (some (.int 0), ((zSC σ), I1, J2))) else (zif (zin (35 + x1) 251) (if (I1 c ((35 + x1).toNatClampNeg)) < 9 then (some (some (.int 1), ((zSC σ), I1, J2))) else (some (some (.int 0), ((zSC σ), I1, J2)))))))) := by
  rcases hwc with ⟨rfl, rfl⟩ | ⟨rfl, rfl⟩ | ⟨rfl, rfl⟩
  all_goals exact (zS_eq zG 2 110 0 _ _ _).trans rfl
set_option maxHeartbeats 16000000 in
set_option maxRecDepth 100000 in
theorem t_qw_canRain (w : Nat) (c : Nat) (hwc : zwc w c) (σ : zSg) (I : zTI) (J : zTJ) : qw_canRain w σ I J = (qw_canRain_2 w 0 σ I J) := by
  rcases hwc with ⟨rfl, rfl⟩ | ⟨rfl, rfl⟩ | ⟨rfl, rfl⟩
  all_goals exact (zS_eq zG 3 111 0 _ _ _).trans rfl
set_option maxHeartbeats 16000000 in
set_option maxRecDepth 100000 in
theorem t_qw_canRain_2 (w : Nat) (x1 : Int32) (c : Nat) (hwc : zwc w c) (σ : zSg) (I : zTI) (J : zTJ) : qw_canRain_2 w x1 σ I J = (if x1 < (I c 85) then (zkI (qw_canBeWetter w x1 σ I J) (zSC σ) (fun r3 I1 J2 => (if r3 = 0 then (qw_canRain_2 w (x1 + 1) σ I1 J2) else (some (some (.int 1), ((zSC σ), I1, J2)))))) else (some (some (.int 0), ((zSC σ), I, J)))) := by
  rcases hwc with ⟨rfl, rfl⟩ | ⟨rfl, rfl⟩ | ⟨rfl, rfl⟩
  all_goals exact (zS_eq zG 3 111 2 _ _ _).trans rfl
set_option maxHeartbeats 16000000 in
set_option maxRecDepth 100000 in
theorem t_qw_wetAboard (w : Nat) (c : Nat) (hwc : zwc w c) (σ : zSg) (I : zTI) (J : zTJ) : qw_wetAboard w σ I J = (qw_wetAboard_4 w 0 0 σ I J) := by
  rcases hwc with ⟨rfl, rfl⟩ | ⟨rfl, rfl⟩ | ⟨rfl, rfl⟩
  all_goals exact (zS_eq zG 3 112 0 _ _ _).trans rfl
set_option maxHeartbeats 16000000 in
set_option maxRecDepth 100000 in
theorem t_qw_wetAboard_4 (w : Nat) (x1 : Int32) (x2 : Int32) (c : Nat) (hwc : zwc w c) (σ : zSg) (I : zTI) (J : zTJ) : qw_wetAboard_4 w x1 x2 σ I J = (if x2 < (I c 85) then (zkI (qw_canBeWetter w x2 σ I J) (zSC σ) (fun r3 I1 J2 => (if r3 = 0 then (qw_wetAboard_4 w x1 (x2 + 1) σ I1 J2) else (zif (zin (35 + x2) 251) (zif (zin (35 + x2) 251) (qw_wetAboard_4 w (x1 + 1) (x2 + 1) σ (zsI I1 c ((35 + x2).toNatClampNeg) ((I1 c ((35 + x2).toNatClampNeg)) + 1)) J2)))))) else (some (some (.int x1), ((zSC σ), I, J)))) := by
  rcases hwc with ⟨rfl, rfl⟩ | ⟨rfl, rfl⟩ | ⟨rfl, rfl⟩
  all_goals exact (zS_eq zG 3 112 4 _ _ _).trans rfl
set_option maxHeartbeats 16000000 in
set_option maxRecDepth 100000 in
theorem t_qw_roomOn (w : Nat) (x1 : Int32) (x2 : Int32) (x3 : Int32) (c : Nat) (hwc : zwc w c) (σ : zSg) (I : zTI) (J : zTJ) : qw_roomOn w x1 x2 x3 σ I J = (zkI (qw_loadOf w x1 σ I J) (zSC σ) (fun r3 I1 J2 => (zkI (qw_tiltOf w x1 σ I1 J2) (zSC σ) (fun r6 I4 J5 => (zkI (qw_arm w x1 x2 σ I4 J5) (zSC σ) (fun r9 I7 J8 => (zkI (qw_cell w 93 x1 σ I7 J8) (zSC σ) (fun r12 I10 J11 => (zkI (qw_cell w 95 x1 σ I10 J11) (zSC σ) (fun r15 I13 J14 => (qw_roomOn_55 x3 r3 r6 r9 r12 r15 (if ((x3 * r12) - r3) < 999 then ((x3 * r12) - r3) else 999) σ I13 J14))))))))))) := by
  rcases hwc with ⟨rfl, rfl⟩ | ⟨rfl, rfl⟩ | ⟨rfl, rfl⟩
  all_goals exact (zS_eq zG 2 113 0 _ _ _).trans rfl
set_option maxHeartbeats 16000000 in
set_option maxRecDepth 100000 in
theorem t_qw_roomOn_55 (x3 : Int32) (x4 : Int32) (x5 : Int32) (x6 : Int32) (x7 : Int32) (x8 : Int32) (x9 : Int32) (w : Nat) (c : Nat) (hwc : zwc w c) (σ : zSg) (I : zTI) (J : zTJ) : qw_roomOn_55 x3 x4 x5 x6 x7 x8 x9 σ I J = (if (0 : Int32) < x9 then (zkI (qw_draughtBy (x4 + x9) (x5 + (x9 * x6)) x7 x8 σ I J) (zSC σ) (fun r3 I1 J2 => (if x3 < r3 then (qw_roomOn_55 x3 x4 x5 x6 x7 x8 (x9 + (-1)) σ I1 J2) else (some (some (.int x9), ((zSC σ), I1, J2)))))) else (some (some (.int 0), ((zSC σ), I, J)))) := by
  rcases hwc with ⟨rfl, rfl⟩ | ⟨rfl, rfl⟩ | ⟨rfl, rfl⟩
  all_goals exact (zS_eq zG 2 113 55 _ _ _).trans rfl
