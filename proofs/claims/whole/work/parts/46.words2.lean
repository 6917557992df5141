/-! ===== words to work trees out by simp ===== -/
theorem zsI_zrI (I : zTI) (a k : Nat) (v : Int32) : zsI I a k v = zrI I a (upd (I a) k v) := by
  funext i
  by_cases q : i = a
  · subst q
    rw [zsI_row, zrI_row]
  · rw [zsI_ne _ _ _ q, zrI_ne _ _ q]
theorem zrI_zrI (I : zTI) (a : Nat) (f g : Nat → Int32) : zrI (zrI I a f) a g = zrI I a g := by
  funext i
  by_cases q : i = a
  · subst q
    rw [zrI_row, zrI_row]
  · rw [zrI_ne _ _ q, zrI_ne _ _ q, zrI_ne _ _ q]
theorem u_at (f : Nat → Int32) (k : Nat) (v : Int32) : upd f k v k = v := by simp [upd]
theorem u_no {f : Nat → Int32} {k j : Nat} {v : Int32} (h : j ≠ k) : upd f k v j = f j := by simp [upd, h]
theorem u_if (f : Nat → Int32) (k j : Nat) (v : Int32) : upd f k v j = if j = k then v else f j := by
  by_cases h : j = k
  · subst h
    rw [u_at, if_pos rfl]
  · rw [u_no h, if_neg h]
theorem u_cm (f : Nat → Int32) {a b : Nat} (v w : Int32) (h : a ≠ b) : upd (upd f a v) b w = upd (upd f b w) a v := by
  funext j
  simp only [u_if]
  by_cases q : j = b
  · subst q
    rw [if_pos rfl, if_neg (fun e => h e.symm), if_pos rfl]
  · rw [if_neg q, if_neg q]
theorem u_id {f : Nat → Int32} {a : Nat} {v : Int32} (h : f a = v) : upd f a v = f := by
  funext j
  rw [u_if]
  by_cases q : j = a
  · subst q
    rw [if_pos rfl, h]
  · rw [if_neg q]
theorem zrI_id {I : zTI} {a : Nat} {f : Nat → Int32} (h : I a = f) : zrI I a f = I := by
  funext i
  by_cases q : i = a
  · subst q
    rw [zrI_row, h]
  · rw [zrI_ne _ _ q]

theorem zxb0 (k : Nat) : (((20 : Int32) + (7 * nI k)) + 0) = nI (20 + 7 * k + 0) := zid (c := 0) rfl
theorem pb0 {I : zTI} {J : zTJ} {k : Nat} (hk : k < 12) : qm_bookOf (nI k) 0 I J = some (some (.int (I 10 (20 + 7 * k + 0))), (zSM, I, J)) := by
  rw [t_qm_bookOf, zxb0, zif_n (by omega) (by omega), ztnn (by omega)]
theorem zxb1 (k : Nat) : (((20 : Int32) + (7 * nI k)) + 1) = nI (20 + 7 * k + 1) := zid (c := 0) rfl
theorem pb1 {I : zTI} {J : zTJ} {k : Nat} (hk : k < 12) : qm_bookOf (nI k) 1 I J = some (some (.int (I 10 (20 + 7 * k + 1))), (zSM, I, J)) := by
  rw [t_qm_bookOf, zxb1, zif_n (by omega) (by omega), ztnn (by omega)]
theorem zxb2 (k : Nat) : (((20 : Int32) + (7 * nI k)) + 2) = nI (20 + 7 * k + 2) := zid (c := 0) rfl
theorem pb2 {I : zTI} {J : zTJ} {k : Nat} (hk : k < 12) : qm_bookOf (nI k) 2 I J = some (some (.int (I 10 (20 + 7 * k + 2))), (zSM, I, J)) := by
  rw [t_qm_bookOf, zxb2, zif_n (by omega) (by omega), ztnn (by omega)]
theorem zxb3 (k : Nat) : (((20 : Int32) + (7 * nI k)) + 3) = nI (20 + 7 * k + 3) := zid (c := 0) rfl
theorem pb3 {I : zTI} {J : zTJ} {k : Nat} (hk : k < 12) : qm_bookOf (nI k) 3 I J = some (some (.int (I 10 (20 + 7 * k + 3))), (zSM, I, J)) := by
  rw [t_qm_bookOf, zxb3, zif_n (by omega) (by omega), ztnn (by omega)]
theorem zxb4 (k : Nat) : (((20 : Int32) + (7 * nI k)) + 4) = nI (20 + 7 * k + 4) := zid (c := 0) rfl
theorem pb4 {I : zTI} {J : zTJ} {k : Nat} (hk : k < 12) : qm_bookOf (nI k) 4 I J = some (some (.int (I 10 (20 + 7 * k + 4))), (zSM, I, J)) := by
  rw [t_qm_bookOf, zxb4, zif_n (by omega) (by omega), ztnn (by omega)]
theorem zxb5 (k : Nat) : (((20 : Int32) + (7 * nI k)) + 5) = nI (20 + 7 * k + 5) := zid (c := 0) rfl
theorem pb5 {I : zTI} {J : zTJ} {k : Nat} (hk : k < 12) : qm_bookOf (nI k) 5 I J = some (some (.int (I 10 (20 + 7 * k + 5))), (zSM, I, J)) := by
  rw [t_qm_bookOf, zxb5, zif_n (by omega) (by omega), ztnn (by omega)]
theorem zxb6 (k : Nat) : (((20 : Int32) + (7 * nI k)) + 6) = nI (20 + 7 * k + 6) := zid (c := 0) rfl
theorem pb6 {I : zTI} {J : zTJ} {k : Nat} (hk : k < 12) : qm_bookOf (nI k) 6 I J = some (some (.int (I 10 (20 + 7 * k + 6))), (zSM, I, J)) := by
  rw [t_qm_bookOf, zxb6, zif_n (by omega) (by omega), ztnn (by omega)]
theorem zxg0 (k : Nat) : (((6 : Int32) + (7 * nI k)) + 0) = nI (6 + 7 * k + 0) := zid (c := 0) rfl
theorem pg0 {I : zTI} {J : zTJ} {k : Nat} (hk : k < 2) : qm_bargeOf (nI k) 0 I J = some (some (.int (I 10 (6 + 7 * k + 0))), (zSM, I, J)) := by
  rw [t_qm_bargeOf, zxg0, zif_n (by omega) (by omega), ztnn (by omega)]
theorem zxg1 (k : Nat) : (((6 : Int32) + (7 * nI k)) + 1) = nI (6 + 7 * k + 1) := zid (c := 0) rfl
theorem pg1 {I : zTI} {J : zTJ} {k : Nat} (hk : k < 2) : qm_bargeOf (nI k) 1 I J = some (some (.int (I 10 (6 + 7 * k + 1))), (zSM, I, J)) := by
  rw [t_qm_bargeOf, zxg1, zif_n (by omega) (by omega), ztnn (by omega)]
theorem zxg2 (k : Nat) : (((6 : Int32) + (7 * nI k)) + 2) = nI (6 + 7 * k + 2) := zid (c := 0) rfl
theorem pg2 {I : zTI} {J : zTJ} {k : Nat} (hk : k < 2) : qm_bargeOf (nI k) 2 I J = some (some (.int (I 10 (6 + 7 * k + 2))), (zSM, I, J)) := by
  rw [t_qm_bargeOf, zxg2, zif_n (by omega) (by omega), ztnn (by omega)]
theorem zxg3 (k : Nat) : (((6 : Int32) + (7 * nI k)) + 3) = nI (6 + 7 * k + 3) := zid (c := 0) rfl
theorem pg3 {I : zTI} {J : zTJ} {k : Nat} (hk : k < 2) : qm_bargeOf (nI k) 3 I J = some (some (.int (I 10 (6 + 7 * k + 3))), (zSM, I, J)) := by
  rw [t_qm_bargeOf, zxg3, zif_n (by omega) (by omega), ztnn (by omega)]
theorem zxg4 (k : Nat) : (((6 : Int32) + (7 * nI k)) + 4) = nI (6 + 7 * k + 4) := zid (c := 0) rfl
theorem pg4 {I : zTI} {J : zTJ} {k : Nat} (hk : k < 2) : qm_bargeOf (nI k) 4 I J = some (some (.int (I 10 (6 + 7 * k + 4))), (zSM, I, J)) := by
  rw [t_qm_bargeOf, zxg4, zif_n (by omega) (by omega), ztnn (by omega)]
theorem zxg5 (k : Nat) : (((6 : Int32) + (7 * nI k)) + 5) = nI (6 + 7 * k + 5) := zid (c := 0) rfl
theorem pg5 {I : zTI} {J : zTJ} {k : Nat} (hk : k < 2) : qm_bargeOf (nI k) 5 I J = some (some (.int (I 10 (6 + 7 * k + 5))), (zSM, I, J)) := by
  rw [t_qm_bargeOf, zxg5, zif_n (by omega) (by omega), ztnn (by omega)]
theorem zxg6 (k : Nat) : (((6 : Int32) + (7 * nI k)) + 6) = nI (6 + 7 * k + 6) := zid (c := 0) rfl
theorem pg6 {I : zTI} {J : zTJ} {k : Nat} (hk : k < 2) : qm_bargeOf (nI k) 6 I J = some (some (.int (I 10 (6 + 7 * k + 6))), (zSM, I, J)) := by
  rw [t_qm_bargeOf, zxg6, zif_n (by omega) (by omega), ztnn (by omega)]
theorem zxr0 (k : Nat) : (((144 : Int32) + (5 * nI k)) + 0) = nI (144 + 5 * k + 0) := zid (c := 0) rfl
theorem pr0 {I : zTI} {J : zTJ} {k : Nat} (hk : k < 6) : qm_readerOf (nI k) 0 I J = some (some (.int (I 10 (144 + 5 * k + 0))), (zSM, I, J)) := by
  rw [t_qm_readerOf, zxr0, zif_n (by omega) (by omega), ztnn (by omega)]
theorem zxr1 (k : Nat) : (((144 : Int32) + (5 * nI k)) + 1) = nI (144 + 5 * k + 1) := zid (c := 0) rfl
theorem pr1 {I : zTI} {J : zTJ} {k : Nat} (hk : k < 6) : qm_readerOf (nI k) 1 I J = some (some (.int (I 10 (144 + 5 * k + 1))), (zSM, I, J)) := by
  rw [t_qm_readerOf, zxr1, zif_n (by omega) (by omega), ztnn (by omega)]
theorem zxr2 (k : Nat) : (((144 : Int32) + (5 * nI k)) + 2) = nI (144 + 5 * k + 2) := zid (c := 0) rfl
theorem pr2 {I : zTI} {J : zTJ} {k : Nat} (hk : k < 6) : qm_readerOf (nI k) 2 I J = some (some (.int (I 10 (144 + 5 * k + 2))), (zSM, I, J)) := by
  rw [t_qm_readerOf, zxr2, zif_n (by omega) (by omega), ztnn (by omega)]
theorem zxr3 (k : Nat) : (((144 : Int32) + (5 * nI k)) + 3) = nI (144 + 5 * k + 3) := zid (c := 0) rfl
theorem pr3 {I : zTI} {J : zTJ} {k : Nat} (hk : k < 6) : qm_readerOf (nI k) 3 I J = some (some (.int (I 10 (144 + 5 * k + 3))), (zSM, I, J)) := by
  rw [t_qm_readerOf, zxr3, zif_n (by omega) (by omega), ztnn (by omega)]
theorem zxr4 (k : Nat) : (((144 : Int32) + (5 * nI k)) + 4) = nI (144 + 5 * k + 4) := zid (c := 0) rfl
theorem pr4 {I : zTI} {J : zTJ} {k : Nat} (hk : k < 6) : qm_readerOf (nI k) 4 I J = some (some (.int (I 10 (144 + 5 * k + 4))), (zSM, I, J)) := by
  rw [t_qm_readerOf, zxr4, zif_n (by omega) (by omega), ztnn (by omega)]
theorem zxh0 (k : Nat) : (((246 : Int32) + (3 * nI k)) + 0) = nI (246 + 3 * k + 0) := zid (c := 0) rfl
theorem ph0 {I : zTI} {J : zTJ} {k : Nat} (hk : k < 4) : qm_holeOf (nI k) 0 I J = some (some (.int (I 10 (246 + 3 * k + 0))), (zSM, I, J)) := by
  rw [t_qm_holeOf, zxh0, zif_n (by omega) (by omega), ztnn (by omega)]
theorem zxh1 (k : Nat) : (((246 : Int32) + (3 * nI k)) + 1) = nI (246 + 3 * k + 1) := zid (c := 0) rfl
theorem ph1 {I : zTI} {J : zTJ} {k : Nat} (hk : k < 4) : qm_holeOf (nI k) 1 I J = some (some (.int (I 10 (246 + 3 * k + 1))), (zSM, I, J)) := by
  rw [t_qm_holeOf, zxh1, zif_n (by omega) (by omega), ztnn (by omega)]
theorem zxh2 (k : Nat) : (((246 : Int32) + (3 * nI k)) + 2) = nI (246 + 3 * k + 2) := zid (c := 0) rfl
theorem ph2 {I : zTI} {J : zTJ} {k : Nat} (hk : k < 4) : qm_holeOf (nI k) 2 I J = some (some (.int (I 10 (246 + 3 * k + 2))), (zSM, I, J)) := by
  rw [t_qm_holeOf, zxh2, zif_n (by omega) (by omega), ztnn (by omega)]
theorem zxw (r k : Nat) : (((174 : Int32) + (12 * nI r)) + nI k) = nI (174 + 12 * r + k) := zid (c := 0) rfl
theorem pw_ {I : zTI} {J : zTJ} {r k : Nat} (hr : r < 6) (hk : k < 12) : qm_wishOf (nI r) (nI k) I J = some (some (.int (I 10 (174 + 12 * r + k))), (zSM, I, J)) := by
  rw [t_qm_wishOf, zxw, zif_n (by omega) (by omega), ztnn (by omega)]
theorem pst {I : zTI} {J : zTJ} {b : Nat} (hb : b < 2) : qm_stopOf (nI b) I J = some (some (.int (I 10 (6 + 7 * b + 5))), (zSM, I, J)) := by
  rw [t_qm_stopOf, pg5 hb, zkI_s]
theorem zy1 (k : Nat) : (((1 : Int32) + nI k)) = nI (1 + k) := nI_add 1 k
theorem pc1 {w c : Nat} (hwc : zwc w c) {k : Nat} (hk : k < 2) (σ : zSg) (I : zTI) (J : zTJ) : qw_cell w 1 (nI k) σ I J = some (some (.int (I c (1 + k))), (zSC σ, I, J)) := p_cellk hwc (y := 1) (a := 1) rfl (by omega) σ I J
theorem zy3 (k : Nat) : (((3 : Int32) + nI k)) = nI (3 + k) := nI_add 3 k
theorem pc3 {w c : Nat} (hwc : zwc w c) {k : Nat} (hk : k < 2) (σ : zSg) (I : zTI) (J : zTJ) : qw_cell w 3 (nI k) σ I J = some (some (.int (I c (3 + k))), (zSC σ, I, J)) := p_cellk hwc (y := 3) (a := 3) rfl (by omega) σ I J
theorem zy5 (k : Nat) : (((5 : Int32) + nI k)) = nI (5 + k) := nI_add 5 k
theorem pc5 {w c : Nat} (hwc : zwc w c) {k : Nat} (hk : k < 2) (σ : zSg) (I : zTI) (J : zTJ) : qw_cell w 5 (nI k) σ I J = some (some (.int (I c (5 + k))), (zSC σ, I, J)) := p_cellk hwc (y := 5) (a := 5) rfl (by omega) σ I J
theorem zy7 (k : Nat) : (((7 : Int32) + nI k)) = nI (7 + k) := nI_add 7 k
theorem pc7 {w c : Nat} (hwc : zwc w c) {k : Nat} (hk : k < 4) (σ : zSg) (I : zTI) (J : zTJ) : qw_cell w 7 (nI k) σ I J = some (some (.int (I c (7 + k))), (zSC σ, I, J)) := p_cellk hwc (y := 7) (a := 7) rfl (by omega) σ I J
theorem zy11 (k : Nat) : (((11 : Int32) + nI k)) = nI (11 + k) := nI_add 11 k
theorem pc11 {w c : Nat} (hwc : zwc w c) {k : Nat} (hk : k < 6) (σ : zSg) (I : zTI) (J : zTJ) : qw_cell w 11 (nI k) σ I J = some (some (.int (I c (11 + k))), (zSC σ, I, J)) := p_cellk hwc (y := 11) (a := 11) rfl (by omega) σ I J
theorem zy17 (k : Nat) : (((17 : Int32) + nI k)) = nI (17 + k) := nI_add 17 k
theorem pc17 {w c : Nat} (hwc : zwc w c) {k : Nat} (hk : k < 6) (σ : zSg) (I : zTI) (J : zTJ) : qw_cell w 17 (nI k) σ I J = some (some (.int (I c (17 + k))), (zSC σ, I, J)) := p_cellk hwc (y := 17) (a := 17) rfl (by omega) σ I J
theorem zy23 (k : Nat) : (((23 : Int32) + nI k)) = nI (23 + k) := nI_add 23 k
theorem pc23 {w c : Nat} (hwc : zwc w c) {k : Nat} (hk : k < 12) (σ : zSg) (I : zTI) (J : zTJ) : qw_cell w 23 (nI k) σ I J = some (some (.int (I c (23 + k))), (zSC σ, I, J)) := p_cellk hwc (y := 23) (a := 23) rfl (by omega) σ I J
theorem zy35 (k : Nat) : (((35 : Int32) + nI k)) = nI (35 + k) := nI_add 35 k
theorem pc35 {w c : Nat} (hwc : zwc w c) {k : Nat} (hk : k < 12) (σ : zSg) (I : zTI) (J : zTJ) : qw_cell w 35 (nI k) σ I J = some (some (.int (I c (35 + k))), (zSC σ, I, J)) := p_cellk hwc (y := 35) (a := 35) rfl (by omega) σ I J
theorem zy47 (k : Nat) : (((47 : Int32) + nI k)) = nI (47 + k) := nI_add 47 k
theorem pc47 {w c : Nat} (hwc : zwc w c) {k : Nat} (hk : k < 12) (σ : zSg) (I : zTI) (J : zTJ) : qw_cell w 47 (nI k) σ I J = some (some (.int (I c (47 + k))), (zSC σ, I, J)) := p_cellk hwc (y := 47) (a := 47) rfl (by omega) σ I J
theorem zy59 (k : Nat) : (((59 : Int32) + nI k)) = nI (59 + k) := nI_add 59 k
theorem pc59 {w c : Nat} (hwc : zwc w c) {k : Nat} (hk : k < 12) (σ : zSg) (I : zTI) (J : zTJ) : qw_cell w 59 (nI k) σ I J = some (some (.int (I c (59 + k))), (zSC σ, I, J)) := p_cellk hwc (y := 59) (a := 59) rfl (by omega) σ I J
theorem zy71 (k : Nat) : (((71 : Int32) + nI k)) = nI (71 + k) := nI_add 71 k
theorem pc71 {w c : Nat} (hwc : zwc w c) {k : Nat} (hk : k < 12) (σ : zSg) (I : zTI) (J : zTJ) : qw_cell w 71 (nI k) σ I J = some (some (.int (I c (71 + k))), (zSC σ, I, J)) := p_cellk hwc (y := 71) (a := 71) rfl (by omega) σ I J
theorem zy89 (k : Nat) : (((89 : Int32) + nI k)) = nI (89 + k) := nI_add 89 k
theorem pc89 {w c : Nat} (hwc : zwc w c) {k : Nat} (hk : k < 2) (σ : zSg) (I : zTI) (J : zTJ) : qw_cell w 89 (nI k) σ I J = some (some (.int (I c (89 + k))), (zSC σ, I, J)) := p_cellk hwc (y := 89) (a := 89) rfl (by omega) σ I J
theorem zy91 (k : Nat) : (((91 : Int32) + nI k)) = nI (91 + k) := nI_add 91 k
theorem pc91 {w c : Nat} (hwc : zwc w c) {k : Nat} (hk : k < 2) (σ : zSg) (I : zTI) (J : zTJ) : qw_cell w 91 (nI k) σ I J = some (some (.int (I c (91 + k))), (zSC σ, I, J)) := p_cellk hwc (y := 91) (a := 91) rfl (by omega) σ I J
theorem zy93 (k : Nat) : (((93 : Int32) + nI k)) = nI (93 + k) := nI_add 93 k
theorem pc93 {w c : Nat} (hwc : zwc w c) {k : Nat} (hk : k < 2) (σ : zSg) (I : zTI) (J : zTJ) : qw_cell w 93 (nI k) σ I J = some (some (.int (I c (93 + k))), (zSC σ, I, J)) := p_cellk hwc (y := 93) (a := 93) rfl (by omega) σ I J
theorem zy95 (k : Nat) : (((95 : Int32) + nI k)) = nI (95 + k) := nI_add 95 k
theorem pc95 {w c : Nat} (hwc : zwc w c) {k : Nat} (hk : k < 2) (σ : zSg) (I : zTI) (J : zTJ) : qw_cell w 95 (nI k) σ I J = some (some (.int (I c (95 + k))), (zSC σ, I, J)) := p_cellk hwc (y := 95) (a := 95) rfl (by omega) σ I J
theorem zy97 (k : Nat) : (((97 : Int32) + nI k)) = nI (97 + k) := nI_add 97 k
theorem pc97 {w c : Nat} (hwc : zwc w c) {k : Nat} (hk : k < 12) (σ : zSg) (I : zTI) (J : zTJ) : qw_cell w 97 (nI k) σ I J = some (some (.int (I c (97 + k))), (zSC σ, I, J)) := p_cellk hwc (y := 97) (a := 97) rfl (by omega) σ I J
theorem zy109 (k : Nat) : (((109 : Int32) + nI k)) = nI (109 + k) := nI_add 109 k
theorem pc109 {w c : Nat} (hwc : zwc w c) {k : Nat} (hk : k < 12) (σ : zSg) (I : zTI) (J : zTJ) : qw_cell w 109 (nI k) σ I J = some (some (.int (I c (109 + k))), (zSC σ, I, J)) := p_cellk hwc (y := 109) (a := 109) rfl (by omega) σ I J
theorem zy121 (k : Nat) : (((121 : Int32) + nI k)) = nI (121 + k) := nI_add 121 k
theorem pc121 {w c : Nat} (hwc : zwc w c) {k : Nat} (hk : k < 32) (σ : zSg) (I : zTI) (J : zTJ) : qw_cell w 121 (nI k) σ I J = some (some (.int (I c (121 + k))), (zSC σ, I, J)) := p_cellk hwc (y := 121) (a := 121) rfl (by omega) σ I J
theorem zy153 (k : Nat) : (((153 : Int32) + nI k)) = nI (153 + k) := nI_add 153 k
theorem pc153 {w c : Nat} (hwc : zwc w c) {k : Nat} (hk : k < 6) (σ : zSg) (I : zTI) (J : zTJ) : qw_cell w 153 (nI k) σ I J = some (some (.int (I c (153 + k))), (zSC σ, I, J)) := p_cellk hwc (y := 153) (a := 153) rfl (by omega) σ I J
theorem zy159 (k : Nat) : (((159 : Int32) + nI k)) = nI (159 + k) := nI_add 159 k
theorem pc159 {w c : Nat} (hwc : zwc w c) {k : Nat} (hk : k < 6) (σ : zSg) (I : zTI) (J : zTJ) : qw_cell w 159 (nI k) σ I J = some (some (.int (I c (159 + k))), (zSC σ, I, J)) := p_cellk hwc (y := 159) (a := 159) rfl (by omega) σ I J
theorem zy165 (k : Nat) : (((165 : Int32) + nI k)) = nI (165 + k) := nI_add 165 k
theorem pc165 {w c : Nat} (hwc : zwc w c) {k : Nat} (hk : k < 6) (σ : zSg) (I : zTI) (J : zTJ) : qw_cell w 165 (nI k) σ I J = some (some (.int (I c (165 + k))), (zSC σ, I, J)) := p_cellk hwc (y := 165) (a := 165) rfl (by omega) σ I J
theorem zy171 (k : Nat) : (((171 : Int32) + nI k)) = nI (171 + k) := nI_add 171 k
theorem pc171 {w c : Nat} (hwc : zwc w c) {k : Nat} (hk : k < 72) (σ : zSg) (I : zTI) (J : zTJ) : qw_cell w 171 (nI k) σ I J = some (some (.int (I c (171 + k))), (zSC σ, I, J)) := p_cellk hwc (y := 171) (a := 171) rfl (by omega) σ I J
theorem zy243 (k : Nat) : (((243 : Int32) + nI k)) = nI (243 + k) := nI_add 243 k
theorem pc243 {w c : Nat} (hwc : zwc w c) {k : Nat} (hk : k < 4) (σ : zSg) (I : zTI) (J : zTJ) : qw_cell w 243 (nI k) σ I J = some (some (.int (I c (243 + k))), (zSC σ, I, J)) := p_cellk hwc (y := 243) (a := 243) rfl (by omega) σ I J
theorem zy247 (k : Nat) : (((247 : Int32) + nI k)) = nI (247 + k) := nI_add 247 k
theorem pc247 {w c : Nat} (hwc : zwc w c) {k : Nat} (hk : k < 4) (σ : zSg) (I : zTI) (J : zTJ) : qw_cell w 247 (nI k) σ I J = some (some (.int (I c (247 + k))), (zSC σ, I, J)) := p_cellk hwc (y := 247) (a := 247) rfl (by omega) σ I J
theorem pc0 {w c : Nat} (hwc : zwc w c) (σ : zSg) (I : zTI) (J : zTJ) : qw_cell w 0 0 σ I J = some (some (.int (I c 0)), (zSC σ, I, J)) := p_cell hwc (x1 := 0) (x2 := 0) (n := 0) rfl (by omega) σ I J
theorem pc83 {w c : Nat} (hwc : zwc w c) (σ : zSg) (I : zTI) (J : zTJ) : qw_cell w 83 0 σ I J = some (some (.int (I c 83)), (zSC σ, I, J)) := p_cell hwc (x1 := 83) (x2 := 0) (n := 83) rfl (by omega) σ I J
theorem pc84 {w c : Nat} (hwc : zwc w c) (σ : zSg) (I : zTI) (J : zTJ) : qw_cell w 84 0 σ I J = some (some (.int (I c 84)), (zSC σ, I, J)) := p_cell hwc (x1 := 84) (x2 := 0) (n := 84) rfl (by omega) σ I J
theorem pc85 {w c : Nat} (hwc : zwc w c) (σ : zSg) (I : zTI) (J : zTJ) : qw_cell w 85 0 σ I J = some (some (.int (I c 85)), (zSC σ, I, J)) := p_cell hwc (x1 := 85) (x2 := 0) (n := 85) rfl (by omega) σ I J
theorem pc86 {w c : Nat} (hwc : zwc w c) (σ : zSg) (I : zTI) (J : zTJ) : qw_cell w 86 0 σ I J = some (some (.int (I c 86)), (zSC σ, I, J)) := p_cell hwc (x1 := 86) (x2 := 0) (n := 86) rfl (by omega) σ I J
theorem pc87 {w c : Nat} (hwc : zwc w c) (σ : zSg) (I : zTI) (J : zTJ) : qw_cell w 87 0 σ I J = some (some (.int (I c 87)), (zSC σ, I, J)) := p_cell hwc (x1 := 87) (x2 := 0) (n := 87) rfl (by omega) σ I J
theorem pc88 {w c : Nat} (hwc : zwc w c) (σ : zSg) (I : zTI) (J : zTJ) : qw_cell w 88 0 σ I J = some (some (.int (I c 88)), (zSC σ, I, J)) := p_cell hwc (x1 := 88) (x2 := 0) (n := 88) rfl (by omega) σ I J
theorem q1Book {I : zTI} {J : zTJ} {nk k : Nat} (s : I 10 1 = nI nk) (h : nk ≤ 12) (hk : k < nk) : qm_isBook (nI k) I J = some (some (.int 1), (zSM, I, J)) := by
  rw [t_qm_isBook, s, if_neg (znn (by omega)), if_pos (nI_lt hk (by omega))]
theorem q0Book {I : zTI} {J : zTJ} {nk : Nat} {x : Int32} (s : I 10 1 = nI nk) (h : x < 0 ∨ ¬ x < 0 ∧ ¬ x < nI nk) : qm_isBook x I J = some (some (.int 0), (zSM, I, J)) := by
  rw [t_qm_isBook, s]
  rcases h with h | ⟨h, h'⟩
  · rw [if_pos h]
  · rw [if_neg h, if_neg h']
theorem r1Book {w c : Nat} (hwc : zwc w c) {σ : zSg} {I : zTI} {J : zTJ} {nk k : Nat} (s : I c 85 = nI nk) (h : nk ≤ 12) (hk : k < nk) : qw_hasBook w (nI k) σ I J = some (some (.int 1), (zSC σ, I, J)) := by
  rw [t_qw_hasBook w _ c hwc, s, if_neg (znn (by omega)), if_pos (nI_lt hk (by omega))]
theorem r0Book {w c : Nat} (hwc : zwc w c) {σ : zSg} {I : zTI} {J : zTJ} {nk : Nat} {x : Int32} (s : I c 85 = nI nk) (h : x < 0 ∨ ¬ x < 0 ∧ ¬ x < nI nk) : qw_hasBook w x σ I J = some (some (.int 0), (zSC σ, I, J)) := by
  rw [t_qw_hasBook w _ c hwc, s]
  rcases h with h | ⟨h, h'⟩
  · rw [if_pos h]
  · rw [if_neg h, if_neg h']
theorem q1Barge {I : zTI} {J : zTJ} {nb k : Nat} (s : I 10 0 = nI nb) (h : nb ≤ 2) (hk : k < nb) : qm_isBarge (nI k) I J = some (some (.int 1), (zSM, I, J)) := by
  rw [t_qm_isBarge, s, if_neg (znn (by omega)), if_pos (nI_lt hk (by omega))]
theorem q0Barge {I : zTI} {J : zTJ} {nb : Nat} {x : Int32} (s : I 10 0 = nI nb) (h : x < 0 ∨ ¬ x < 0 ∧ ¬ x < nI nb) : qm_isBarge x I J = some (some (.int 0), (zSM, I, J)) := by
  rw [t_qm_isBarge, s]
  rcases h with h | ⟨h, h'⟩
  · rw [if_pos h]
  · rw [if_neg h, if_neg h']
theorem r1Barge {w c : Nat} (hwc : zwc w c) {σ : zSg} {I : zTI} {J : zTJ} {nb k : Nat} (s : I c 84 = nI nb) (h : nb ≤ 2) (hk : k < nb) : qw_hasBarge w (nI k) σ I J = some (some (.int 1), (zSC σ, I, J)) := by
  rw [t_qw_hasBarge w _ c hwc, s, if_neg (znn (by omega)), if_pos (nI_lt hk (by omega))]
theorem r0Barge {w c : Nat} (hwc : zwc w c) {σ : zSg} {I : zTI} {J : zTJ} {nb : Nat} {x : Int32} (s : I c 84 = nI nb) (h : x < 0 ∨ ¬ x < 0 ∧ ¬ x < nI nb) : qw_hasBarge w x σ I J = some (some (.int 0), (zSC σ, I, J)) := by
  rw [t_qw_hasBarge w _ c hwc, s]
  rcases h with h | ⟨h, h'⟩
  · rw [if_pos h]
  · rw [if_neg h, if_neg h']
theorem q1Stop {I : zTI} {J : zTJ} {ns k : Nat} (s : I 10 2 = nI ns) (h : ns ≤ 8) (hk : k < ns) : qm_isStop (nI k) I J = some (some (.int 1), (zSM, I, J)) := by
  rw [t_qm_isStop, s, if_neg (znn (by omega)), if_pos (nI_lt hk (by omega))]
theorem q0Stop {I : zTI} {J : zTJ} {ns : Nat} {x : Int32} (s : I 10 2 = nI ns) (h : x < 0 ∨ ¬ x < 0 ∧ ¬ x < nI ns) : qm_isStop x I J = some (some (.int 0), (zSM, I, J)) := by
  rw [t_qm_isStop, s]
  rcases h with h | ⟨h, h'⟩
  · rw [if_pos h]
  · rw [if_neg h, if_neg h']
theorem r1Stop {w c : Nat} (hwc : zwc w c) {σ : zSg} {I : zTI} {J : zTJ} {ns k : Nat} (s : I c 86 = nI ns) (h : ns ≤ 8) (hk : k < ns) : qw_hasStop w (nI k) σ I J = some (some (.int 1), (zSC σ, I, J)) := by
  rw [t_qw_hasStop w _ c hwc, s, if_neg (znn (by omega)), if_pos (nI_lt hk (by omega))]
theorem r0Stop {w c : Nat} (hwc : zwc w c) {σ : zSg} {I : zTI} {J : zTJ} {ns : Nat} {x : Int32} (s : I c 86 = nI ns) (h : x < 0 ∨ ¬ x < 0 ∧ ¬ x < nI ns) : qw_hasStop w x σ I J = some (some (.int 0), (zSC σ, I, J)) := by
  rw [t_qw_hasStop w _ c hwc, s]
  rcases h with h | ⟨h, h'⟩
  · rw [if_pos h]
  · rw [if_neg h, if_neg h']
theorem q1Reader {I : zTI} {J : zTJ} {nr k : Nat} (s : I 10 3 = nI nr) (h : nr ≤ 6) (hk : k < nr) : qm_isReader (nI k) I J = some (some (.int 1), (zSM, I, J)) := by
  rw [t_qm_isReader, s, if_neg (znn (by omega)), if_pos (nI_lt hk (by omega))]
theorem q0Reader {I : zTI} {J : zTJ} {nr : Nat} {x : Int32} (s : I 10 3 = nI nr) (h : x < 0 ∨ ¬ x < 0 ∧ ¬ x < nI nr) : qm_isReader x I J = some (some (.int 0), (zSM, I, J)) := by
  rw [t_qm_isReader, s]
  rcases h with h | ⟨h, h'⟩
  · rw [if_pos h]
  · rw [if_neg h, if_neg h']
theorem r1Reader {w c : Nat} (hwc : zwc w c) {σ : zSg} {I : zTI} {J : zTJ} {nr k : Nat} (s : I c 87 = nI nr) (h : nr ≤ 6) (hk : k < nr) : qw_hasReader w (nI k) σ I J = some (some (.int 1), (zSC σ, I, J)) := by
  rw [t_qw_hasReader w _ c hwc, s, if_neg (znn (by omega)), if_pos (nI_lt hk (by omega))]
theorem r0Reader {w c : Nat} (hwc : zwc w c) {σ : zSg} {I : zTI} {J : zTJ} {nr : Nat} {x : Int32} (s : I c 87 = nI nr) (h : x < 0 ∨ ¬ x < 0 ∧ ¬ x < nI nr) : qw_hasReader w x σ I J = some (some (.int 0), (zSC σ, I, J)) := by
  rw [t_qw_hasReader w _ c hwc, s]
  rcases h with h | ⟨h, h'⟩
  · rw [if_pos h]
  · rw [if_neg h, if_neg h']
theorem q1Hole {I : zTI} {J : zTJ} {nh k : Nat} (s : I 10 4 = nI nh) (h : nh ≤ 4) (hk : k < nh) : qm_isHole (nI k) I J = some (some (.int 1), (zSM, I, J)) := by
  rw [t_qm_isHole, s, if_neg (znn (by omega)), if_pos (nI_lt hk (by omega))]
theorem q0Hole {I : zTI} {J : zTJ} {nh : Nat} {x : Int32} (s : I 10 4 = nI nh) (h : x < 0 ∨ ¬ x < 0 ∧ ¬ x < nI nh) : qm_isHole x I J = some (some (.int 0), (zSM, I, J)) := by
  rw [t_qm_isHole, s]
  rcases h with h | ⟨h, h'⟩
  · rw [if_pos h]
  · rw [if_neg h, if_neg h']
theorem r1Hole {w c : Nat} (hwc : zwc w c) {σ : zSg} {I : zTI} {J : zTJ} {nh k : Nat} (s : I c 88 = nI nh) (h : nh ≤ 4) (hk : k < nh) : qw_hasHole w (nI k) σ I J = some (some (.int 1), (zSC σ, I, J)) := by
  rw [t_qw_hasHole w _ c hwc, s, if_neg (znn (by omega)), if_pos (nI_lt hk (by omega))]
theorem r0Hole {w c : Nat} (hwc : zwc w c) {σ : zSg} {I : zTI} {J : zTJ} {nh : Nat} {x : Int32} (s : I c 88 = nI nh) (h : x < 0 ∨ ¬ x < 0 ∧ ¬ x < nI nh) : qw_hasHole w x σ I J = some (some (.int 0), (zSC σ, I, J)) := by
  rw [t_qw_hasHole w _ c hwc, s]
  rcases h with h | ⟨h, h'⟩
  · rw [if_pos h]
  · rw [if_neg h, if_neg h']
/-- the barge of what is aboard -/
def zbw (v : Int32) : Int32 := if v = 100 then 0 else if v = 101 then 1 else -1
theorem z_bw (v : Int32) : (¬ v < 100 ∧ ¬ (101 : Int32) < v) ↔ v = 100 ∨ v = 101 := by
  constructor
  · rintro ⟨h1, h2⟩
    have h3 : ¬ v.toInt < 100 := fun q => h1 (Int32.lt_iff_toInt_lt.mpr q)
    have h4 : ¬ 101 < v.toInt := fun q => h2 (Int32.lt_iff_toInt_lt.mpr q)
    rcases (show v.toInt = 100 ∨ v.toInt = 101 by omega) with q | q
    · exact Or.inl (Int32.toInt_inj.mp q)
    · exact Or.inr (Int32.toInt_inj.mp q)
  · rintro (rfl | rfl)
    · exact ⟨by decide, by decide⟩
    · exact ⟨by decide, by decide⟩
theorem p_bargeWith {I : zTI} {J : zTJ} {k : Nat} (hk : k < 12) : qm_bargeWith (nI k) I J = some (some (.int (zbw (I 10 (20 + 7 * k + 4)))), (zSM, I, J)) := by
  rw [t_qm_bargeWith, pb4 hk, zkI_s, p_in2 (a := 100) (b := 101) rfl rfl, zkI_s]
  unfold zbw
  by_cases h : ¬ I 10 (20 + 7 * k + 4) < 100 ∧ ¬ (101 : Int32) < I 10 (20 + 7 * k + 4)
  · rw [if_pos h, if_neg (by decide), pb4 hk, zkI_s]
    rcases (z_bw _).mp h with q | q
    · rw [q]; rfl
    · rw [q]; rfl
  · rw [if_neg h, if_pos rfl, if_neg (fun q => h ((z_bw _).mpr (Or.inl q))), if_neg (fun q => h ((z_bw _).mpr (Or.inr q)))]
theorem p_bargeOfW {w c : Nat} (hwc : zwc w c) {σ : zSg} {I : zTI} {J : zTJ} {nk k : Nat} (s : I c 85 = nI nk) (h : nk ≤ 12) (hk : k < nk) : qw_bargeOf w (nI k) σ I J = some (some (.int (zbw (I c (47 + k)))), (zSC σ, I, J)) := by
  rw [t_qw_bargeOf w _ c hwc, r1Book hwc s h hk, zkI_s, if_neg (by decide), zy47, zif_n (by omega) (by omega), ztnn (by omega)]
  unfold zbw
  by_cases q : I c (47 + k) = 100
  · rw [if_pos q, if_pos q, q]; rfl
  · rw [if_neg q, if_neg q]
    by_cases q : I c (47 + k) = 101
    · rw [if_pos q, if_pos q, q]; rfl
    · rw [if_neg q, if_neg q]
theorem p_bargeOfW0 {w c : Nat} (hwc : zwc w c) {σ : zSg} {I : zTI} {J : zTJ} {nk : Nat} {x : Int32} (s : I c 85 = nI nk) (h : x < 0 ∨ ¬ x < 0 ∧ ¬ x < nI nk) : qw_bargeOf w x σ I J = some (some (.int (-1)), (zSC σ, I, J)) := by
  rw [t_qw_bargeOf w _ c hwc, r0Book hwc s h, zkI_s, if_pos rfl]

