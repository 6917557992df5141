/-! ===== images: the class's way ===== -/
theorem zim1 (K : zKt) (x : Int32) (h : zH) : zxk zG (zS zG) 2 (zG 152) K 2 0 [some (.ref 0), some (.int x)] [] h = (if x < 0 then K 9 [some (.ref 0), some (.int x)] [] h else K 4 [some (.ref 0), some (.int x)] [] h) := rfl
theorem zim2 (K : zKt) (x : Int32) (h : zH) : zxk zG (zS zG) 2 (zG 152) K 2 9 [some (.ref 0), some (.int x)] [] h = some (some (.int (-1)), h) := rfl
theorem zim3 (K : zKt) (x : Int32) (h : zH) : zxk zG (zS zG) 2 (zG 152) K 3 4 [some (.ref 0), some (.int x)] [] h = (if x < 4 then K 11 [some (.ref 0), some (.int x)] [] h else K 9 [some (.ref 0), some (.int x)] [] h) := rfl
theorem zim4 (K : zKt) (x : Int32) (σ : zSg) (I : zTI) (J : zTJ) : zxk zG (zS zG) 2 (zG 152) K 5 11 [some (.ref 0), some (.int x)] [] (zSC σ, I, J) = zif (zin x 4) (zrf (σ.2.2.2.1 x.toNatClampNeg) (fun _ => K 33 [some (.ref 0), some (.int x)] [] (zSC σ, I, J)) (K 20 [some (.ref 0), some (.int x)] [] (zSC σ, I, J))) := rfl
theorem zim5 (K : zKt) (x : Int32) (σ : zSg) (I : zTI) (J : zTJ) : zxk zG (zS zG) 2 (zG 152) K 5 20 [some (.ref 0), some (.int x)] [] (zSC σ, I, J) = K 29 [some (.ref 0), some (.int x)] [.ref (zSC σ).length, .ref (zSC σ).length, .int x, .ref 4] (znew (zSC σ, I, J) 9 0) := rfl
theorem zim6 (K : zKt) (x : Int32) (o : Nat) (sh : List zE) (I : zTI) (J : zTJ) : zxk zG (zS zG) 2 (zG 152) K 1 29 [some (.ref 0), some (.int x)] [.ref o, .ref o, .int x, .ref 4] (sh, I, J) = zob (sh, I, J) o [9] (fun _ => zcV (zS zG 1 75 0 [some (.ref o)] [] (sh, I, J)) (fun h => K 32 [some (.ref 0), some (.int x)] [.ref o, .int x, .ref 4] h)) := rfl
theorem zim7 (K : zKt) (x : Int32) (o : Nat) (sh : List zE) (I : zTI) (J : zTJ) : zxk zG (zS zG) 2 (zG 152) K 1 32 [some (.ref 0), some (.int x)] [.ref o, .int x, .ref 4] (sh, I, J) = zar (sh, I, J) 4 17 (fun n _ => zob (sh, I, J) o [9] (fun _ => zif (zin x n) (K 33 [some (.ref 0), some (.int x)] [] (zsR sh 4 x.toNatClampNeg (some o), I, J)))) := rfl
theorem zim8 (K : zKt) (x : Int32) (σ : zSg) (I : zTI) (J : zTJ) : zxk zG (zS zG) 2 (zG 152) K 7 33 [some (.ref 0), some (.int x)] [] (zSC σ, I, J) = zif (zin x 4) (zrf (σ.2.2.2.1 x.toNatClampNeg) (fun q => zob (zSC σ, I, J) q [9] (fun _ => zkV (zS zG 1 76 0 [some (.ref q), some (.ref 2)] [] (zSC σ, I, J)) (zSC σ) (fun I1 J1 => K 46 [some (.ref 0), some (.int x)] [] (zSC σ, I1, J1)))) none) := rfl
theorem zim9 (K : zKt) (x : Int32) (σ : zSg) (I : zTI) (J : zTJ) : zxk zG (zS zG) 2 (zG 152) K 6 46 [some (.ref 0), some (.int x)] [] (zSC σ, I, J) = zkI (qw_cell 2 0 0 σ I J) (zSC σ) (fun r I1 J1 => some (some (.int r), (zSC σ, I1, J1))) := rfl
theorem p_world0 (sh : List zE) (I : zTI) (J : zTJ) (o : Nat) : zS zG 1 75 0 [some (.ref o)] [] (sh, I, J) = zob (sh ++ [(13, 251, zno)], zrI I sh.length (fun _ => 0), zrJ J sh.length (fun _ => 0)) o [9] (fun _ => some (none, (zsR (sh ++ [(13, 251, zno)]) o 0 (some sh.length), zrI I sh.length (fun _ => 0), zrJ J sh.length (fun _ => 0)))) := (zS_eq zG 1 75 0 _ _ _).trans rfl
theorem t_copyG (sh : List zE) (I : zTI) (J : zTJ) (a b : Nat) : zS zG 1 76 0 [some (.ref a), some (.ref b)] [] (sh, I, J) = zob (sh, I, J) b [9] (fun rf => zrf (rf 0) (fun q => zob (sh, I, J) a [9] (fun rf2 => zrf (rf2 0) (fun d => zar (sh, I, J) q 13 (fun n0 _ => zar (sh, I, J) d 13 (fun n1 _ => zif (zrg 0 251 n0) (zif (zrg 0 251 n1) (some (none, (sh, zrI I d (va_cpy (I q) (I d) (0 : Int32).toNatClampNeg (0 : Int32).toNatClampNeg (251 : Int32).toNatClampNeg), J))))))) none)) (zob (sh, I, J) a [9] (fun rf2 => zrf (rf2 0) (fun d => none) none))) := (zS_eq zG 1 76 0 _ _ _).trans rfl
theorem p_copyG {sh : List zE} {I : zTI} {J : zTJ} {a b ca cb : Nat} {r1 r2 : Nat → Option Nat} (ha : sh[a]? = some (9, 0, zls [some ca])) (hb : sh[b]? = some (9, 0, zls [some cb])) (hca : sh[ca]? = some (13, 251, r1)) (hcb : sh[cb]? = some (13, 251, r2)) : zS zG 1 76 0 [some (.ref a), some (.ref b)] [] (sh, I, J) = some (none, (sh, zrI I ca (va_cpy (I cb) (I ca) 0 0 251), J)) := by
  rw [t_copyG, zob_s hb, show zls [some cb] 0 = some cb from rfl, zrf_so, zob_s ha, show zls [some ca] 0 = some ca from rfl, zrf_so, zar_s hcb, zar_s hca, zif_t zrg251, zif_t zrg251, t000, t251]
theorem zSC_app (σ : zSg) (l : List zE) : zSC σ ++ l = zSC (σ.1, σ.2.1, σ.2.2.1, σ.2.2.2.1, σ.2.2.2.2 ++ l) := rfl
theorem zSC_len (σ : zSg) : (zSC σ).length = 47 + σ.2.2.2.2.length := by
  show σ.2.2.2.2.length + 47 = _
  omega
/-- an image is made -/
def zAd (σ : zSg) (k : Nat) : zSg := (σ.1, σ.2.1, σ.2.2.1, zup σ.2.2.2.1 k (some (zSC σ).length), σ.2.2.2.2 ++ [(9, 0, zls [some ((zSC σ).length + 1)]), (13, 251, zno)])
theorem zup_no (v : Option Nat) : zup zno 0 v = zls [v] := by
  funext k
  match k with
  | 0 => rfl
  | k + 1 => rfl
theorem zsR_at {A B : List zE} {e : zE} {k : Nat} {v : Option Nat} : zsR (A ++ e :: B) A.length k v = A ++ (e.1, e.2.1, zup e.2.2 k v) :: B := by
  unfold zsR
  rw [List.getElem?_append_right (by omega), Nat.sub_self]
  show (A ++ e :: B).set A.length _ = _
  rw [List.set_append_right _ _ (by omega), Nat.sub_self]
  rfl
theorem zat_app {A B : List zE} {e : zE} : (A ++ e :: B)[A.length]? = some e := by
  rw [List.getElem?_append_right (by omega), Nat.sub_self]
  rfl
theorem p_world {A : List zE} {I : zTI} {J : zTJ} : zS zG 1 75 0 [some (.ref A.length)] [] (A ++ [(9, 0, zno)], I, J) = some (none, (A ++ [(9, 0, zls [some (A.length + 1)]), (13, 251, zno)], zrI I (A.length + 1) (fun _ => 0), zrJ J (A.length + 1) (fun _ => 0))) := by
  rw [p_world0, List.length_append, show A.length + [((9 : Nat), (0 : Nat), zno)].length = A.length + 1 from rfl, List.append_assoc, show [((9 : Nat), (0 : Nat), zno)] ++ [((13 : Nat), (251 : Nat), zno)] = (9, 0, zno) :: [(13, 251, zno)] from rfl, zob_s zat_app, zsR_at, zup_no]
theorem zAd_sh (σ : zSg) (k : Nat) : zsR (zSC σ ++ [(9, 0, zls [some ((zSC σ).length + 1)]), (13, 251, zno)]) 4 k (some (zSC σ).length) = zSC (zAd σ k) := rfl
theorem zSC_hi (σ : zSg) (j : Nat) : (zSC σ)[47 + j]? = σ.2.2.2.2[j]? := by
  rw [Nat.add_comm]
  rfl
theorem zAd_o (σ : zSg) (k : Nat) : (zSC (zAd σ k))[(zSC σ).length]? = some (9, 0, zls [some ((zSC σ).length + 1)]) := by
  have h := zSC_hi (zAd σ k) σ.2.2.2.2.length
  rw [← zSC_len] at h
  rw [h]
  exact zat_app
theorem zAd_c (σ : zSg) (k : Nat) : (zSC (zAd σ k))[(zSC σ).length + 1]? = some (13, 251, zno) := by
  have h := zSC_hi (zAd σ k) (σ.2.2.2.2.length + 1)
  rw [← Nat.add_assoc, ← zSC_len] at h
  rw [h]
  show (σ.2.2.2.2 ++ _)[_]? = _
  rw [List.getElem?_append_right (by omega), show σ.2.2.2.2.length + 1 - σ.2.2.2.2.length = 1 by omega]
  rfl
theorem zlt_at {l : List zE} {i : Nat} {e : zE} (h : l[i]? = some e) : i < l.length := by
  rcases Nat.lt_or_ge i l.length with h' | h'
  · exact h'
  · rw [List.getElem?_eq_none h'] at h
    cases h
theorem zAd_k (σ : zSg) (k : Nat) {i : Nat} (h : i < (zSC σ).length) (h4 : i ≠ 4) : (zSC (zAd σ k))[i]? = (zSC σ)[i]? := by
  have e : zSC (zAd σ k) = (zSC σ ++ [(9, 0, zls [some ((zSC σ).length + 1)]), (13, 251, zno)]).set 4 (17, 4, zup σ.2.2.2.1 k (some (zSC σ).length)) := rfl
  rw [e, List.getElem?_set_ne (fun h' => h4 h'.symm), List.getElem?_append_left h]
/-- the class makes an image -/
theorem p_image0 (σ : zSg) (I : zTI) (J : zTJ) {k : Nat} (hk : k < 4) (h : σ.2.2.2.1 k = none) : ∃ I1 J1, zS zG 2 152 0 [some (.ref 0), some (.int (nI k))] [] (zSC σ, I, J) = some (some (.int (I 3 0)), (zSC (zAd σ k), I1, J1)) ∧ (∀ i, i < (zSC σ).length → I1 i = I i) ∧ (∀ i, i < 251 → I1 ((zSC σ).length + 1) i = I 3 i) := by
  have q0 : ¬ nI k < (0 : Int32) := znn (by omega)
  have q4 : nI k < (4 : Int32) := nI_lt (b := 4) hk (by decide)
  have hl := zSC_len σ
  have o3 : (zSC (zAd σ k))[2]? = some (9, 0, zls [some 3]) := rfl
  have o4 : (zSC (zAd σ k))[3]? = some (13, 251, zno) := rfl
  rw [zS_eq]
  show ∃ I1 J1, zx zG (zS zG) 2 152 (zG 152) 400 0 [some (.ref 0), some (.int (nI k))] [] (zSC σ, I, J) = _ ∧ _
  rw [zx_N 400 2 398 rfl rfl, zim1, if_neg q0, zx_N 398 3 395 rfl rfl, zim3, if_pos q4, zx_N 395 5 390 rfl rfl, zim4, zif_n (by omega) (by omega), ztnn (by omega), h]
  show ∃ I1 J1, zx zG (zS zG) 2 152 (zG 152) 390 20 [some (.ref 0), some (.int (nI k))] [] (zSC σ, I, J) = _ ∧ _
  rw [zx_N 390 5 385 rfl rfl, zim5, zx_N 385 1 384 rfl rfl]
  show ∃ I1 J1, zxk zG (zS zG) 2 (zG 152) _ 1 29 [some (.ref 0), some (.int (nI k))] [.ref (zSC σ).length, .ref (zSC σ).length, .int (nI k), .ref 4] (zSC σ ++ [(9, 0, zno)], zrI I (zSC σ).length (fun _ => 0), zrJ J (zSC σ).length (fun _ => 0)) = _ ∧ _
  rw [zim6, zob_s zat_app, p_world, zcV_s, zx_N 384 1 383 rfl rfl, zim7, zar_s (k := 17) (n := 4) (rf := σ.2.2.2.1) rfl, zob_s zat_app, zif_n (by omega) (by omega), ztnn (by omega), zAd_sh, zx_N 383 7 376 rfl rfl, zim8, zif_n (by omega) (by omega), ztnn (by omega), show (zAd σ k).2.2.2.1 k = some (zSC σ).length from (by show zup σ.2.2.2.1 k _ k = _; unfold zup; rw [Nat.beq_refl]; rfl), zrf_so, zob_s (zAd_o σ k), p_copyG (zAd_o σ k) o3 (zAd_c σ k) o4, zkV_s, zx_N 376 6 370 rfl rfl, zim9, show qw_cell 2 0 0 _ _ _ = _ from p_cellk w2 (y := 0) (a := 0) (k := 0) rfl (by omega) _ _ _, zkI_s]
  have z1 : ∀ (I : zTI) (f : Nat → Int32), zrI I ((zSC σ).length + 1) f 3 = I 3 := fun I f => zrI_ne _ _ (by omega)
  have z2 : ∀ (I : zTI) (f : Nat → Int32), zrI I (zSC σ).length f 3 = I 3 := fun I f => zrI_ne _ _ (by omega)
  simp only [z1, z2]
  refine ⟨_, _, rfl, fun i hi => ?_, fun i hi => ?_⟩
  · rw [zrI_ne _ _ (by omega), zrI_ne _ _ (by omega), zrI_ne _ _ (by omega)]
  · rw [zrI_row, zva_in (by omega), show 0 + (i - 0) = i by omega]
theorem p_image1 (σ : zSg) (I : zTI) (J : zTJ) {k o : Nat} {r : Nat → Option Nat} (hk : k < 4) (h : σ.2.2.2.1 k = some o) (h47 : 47 ≤ o) (ho : (zSC σ)[o]? = some (9, 0, zls [some (o + 1)])) (hc : (zSC σ)[o + 1]? = some (13, 251, r)) : zS zG 2 152 0 [some (.ref 0), some (.int (nI k))] [] (zSC σ, I, J) = some (some (.int (I 3 0)), (zSC σ, zrI I (o + 1) (va_cpy (I 3) (I (o + 1)) 0 0 251), J)) := by
  have q0 : ¬ nI k < (0 : Int32) := znn (by omega)
  have q4 : nI k < (4 : Int32) := nI_lt (b := 4) hk (by decide)
  have o3 : (zSC σ)[2]? = some (9, 0, zls [some 3]) := rfl
  have o4 : (zSC σ)[3]? = some (13, 251, zno) := rfl
  rw [zS_eq]
  show zx zG (zS zG) 2 152 (zG 152) 400 0 [some (.ref 0), some (.int (nI k))] [] (zSC σ, I, J) = _
  rw [zx_N 400 2 398 rfl rfl, zim1, if_neg q0, zx_N 398 3 395 rfl rfl, zim3, if_pos q4, zx_N 395 5 390 rfl rfl, zim4, zif_n (by omega) (by omega), ztnn (by omega), h, zrf_so, zx_N 390 7 383 rfl rfl, zim8, zif_n (by omega) (by omega), ztnn (by omega), h, zrf_so, zob_s ho, p_copyG ho o3 hc o4, zkV_s, zx_N 383 6 377 rfl rfl, zim9, show qw_cell 2 0 0 _ _ _ = _ from p_cellk w2 (y := 0) (a := 0) (k := 0) rfl (by omega) _ _ _, zkI_s, zrI_ne _ _ (show 3 ≠ o + 1 by omega)]
theorem p_image2 (σ : zSg) (I : zTI) (J : zTJ) {x : Int32} (hx : x < 0 ∨ ¬ x < 4) : zS zG 2 152 0 [some (.ref 0), some (.int x)] [] (zSC σ, I, J) = some (some (.int (-1)), (zSC σ, I, J)) := by
  rw [zS_eq]
  show zx zG (zS zG) 2 152 (zG 152) 400 0 [some (.ref 0), some (.int x)] [] (zSC σ, I, J) = _
  by_cases q : x < 0
  · rw [zx_N 400 2 398 rfl rfl, zim1, if_pos q, zx_N 398 2 396 rfl rfl, zim2]
  · rw [zx_N 400 2 398 rfl rfl, zim1, if_neg q, zx_N 398 3 395 rfl rfl, zim3, if_neg (by rcases hx with h | h; exact absurd h q; exact h), zx_N 395 2 393 rfl rfl, zim2]
