/-! ===== a rule is made: the class ===== -/
theorem t_copyOf (sh : List zE) (I : zTI) (J : zTJ) (a : Nat) (x : Int32) : zS zG 5 299 0 [some (.ref a), some (.int x), none] [] (sh, I, J) = zal (sh, I, J) a (fun n => if x = Int32.ofNat n then zar (sh, I, J) a 13 (fun n0 _ => zar (zcpy (sh, I, J) a n0) sh.length 13 (fun _ _ => some (some (.ref sh.length), zcpy (sh, I, J) a n0))) else zif (zin x 100000) (zal (znew (sh, I, J) 13 x.toNatClampNeg) a (fun n1 => zar (znew (sh, I, J) 13 x.toNatClampNeg) a 13 (fun n0 _ => zar (znew (sh, I, J) 13 x.toNatClampNeg) sh.length 13 (fun n2 _ => zif (zrg 0 (if x < Int32.ofNat n1 then x else Int32.ofNat n1) n0) (zif (zrg 0 (if x < Int32.ofNat n1 then x else Int32.ofNat n1) n2) (some (some (.ref sh.length), ((znew (sh, I, J) 13 x.toNatClampNeg).1, zrI (znew (sh, I, J) 13 x.toNatClampNeg).2.1 sh.length (va_cpy ((znew (sh, I, J) 13 x.toNatClampNeg).2.1 a) ((znew (sh, I, J) 13 x.toNatClampNeg).2.1 sh.length) (0 : Int32).toNatClampNeg (0 : Int32).toNatClampNeg (if x < Int32.ofNat n1 then x else Int32.ofNat n1).toNatClampNeg), (znew (sh, I, J) 13 x.toNatClampNeg).2.2))))))))) := (zS_eq zG 5 299 0 _ _ _).trans rfl
theorem p_copyOf {sh : List zE} {I : zTI} {J : zTJ} {a N m : Nat} {rf : Nat → Option Nat} (h : sh[a]? = some (13, N, rf)) (hm : m ≤ N) (hN : N ≤ 400) : ∃ f J1, zS zG 5 299 0 [some (.ref a), some (.int (nI m)), none] [] (sh, I, J) = some (some (.ref sh.length), (sh ++ [(13, m, zno)], zrI I sh.length f, J1)) ∧ ∀ j, j < m → f j = I a j := by
  have ha : a < sh.length := zlt_at h
  have h1 : (sh ++ [((13 : Nat), m, zno)])[a]? = some (13, N, rf) := by rw [List.getElem?_append_left ha]; exact h
  have h2 : ∀ n, (sh ++ [((13 : Nat), n, zno)])[sh.length]? = some (13, n, zno) := fun n => zat_app
  rw [t_copyOf, zal_s h rfl]
  by_cases q : m = N
  · subst q
    rw [if_pos (show nI m = Int32.ofNat m from rfl), zar_s h]
    show ∃ f J1, zar (sh ++ [((13 : Nat), m, zno)], zrI I sh.length (I a), zrJ J sh.length (fun _ => 0)) sh.length 13 _ = _ ∧ _
    rw [zar_s (h2 m)]
    exact ⟨_, _, rfl, fun j _ => rfl⟩
  · rw [if_neg (show ¬ nI m = Int32.ofNat N from fun e => q (znI (a := m) (b := N) (by omega) (by omega) e)), zif_n (by omega) (by omega), ztnn (by omega)]
    show ∃ f J1, zal (sh ++ [((13 : Nat), m, zno)], zrI I sh.length (fun _ => 0), zrJ J sh.length (fun _ => 0)) a _ = _ ∧ _
    rw [zal_s h1 rfl]
    show ∃ f J1, zar (sh ++ [((13 : Nat), m, zno)], zrI I sh.length (fun _ => 0), zrJ J sh.length (fun _ => 0)) a 13 _ = _ ∧ _
    rw [zar_s h1]
    show ∃ f J1, zar (sh ++ [((13 : Nat), m, zno)], zrI I sh.length (fun _ => 0), zrJ J sh.length (fun _ => 0)) sh.length 13 _ = _ ∧ _
    rw [zar_s (h2 m), if_pos (show nI m < Int32.ofNat N from nI_lt (b := N) (by omega) (by omega)), zif_t (show zrg 0 (nI m) N = true from zrg_n (a := 0) (n := m) rfl rfl (by omega) (by omega)), zif_t (show zrg 0 (nI m) m = true from zrg_n (a := 0) (n := m) rfl rfl (by omega) (by omega)), ztnn (by omega), t000]
    refine ⟨va_cpy (I a) (fun _ => 0) 0 0 m, zrJ J sh.length (fun _ => 0), ?_, fun j hj => ?_⟩
    · show some (some (Value.ref sh.length), (sh ++ [((13 : Nat), m, zno)], zrI (zrI I sh.length (fun _ => 0)) sh.length (va_cpy (zrI I sh.length (fun _ => 0) a) (zrI I sh.length (fun _ => 0) sh.length) 0 0 m), zrJ J sh.length (fun _ => 0))) = _
      rw [zrI_zrI, zrI_ne _ _ (show a ≠ sh.length by omega), zrI_row]
    · rw [zva_in (by omega), show 0 + (j - 0) = j by omega]
theorem t_rinit (sh : List zE) (I : zTI) (J : zTJ) (o c l : Nat) : zS zG 1 43 0 [some (.ref o), some (.ref c), some (.ref l)] [] (sh, I, J) = zob (sh ++ [(14, 64, zno)], zrI I sh.length (fun _ => 0), zrJ J sh.length (fun _ => 0)) o [7] (fun _ => zob (zsR (sh ++ [(14, 64, zno)]) o 2 (some sh.length), zrI I sh.length (fun _ => 0), zrJ J sh.length (fun _ => 0)) o [7] (fun _ => zob (zsR (zsR (sh ++ [(14, 64, zno)]) o 2 (some sh.length)) o 0 (some c), zrI I sh.length (fun _ => 0), zrJ J sh.length (fun _ => 0)) o [7] (fun _ => some (none, (zsR (zsR (zsR (sh ++ [(14, 64, zno)]) o 2 (some sh.length)) o 0 (some c)) o 1 (some l), zrI I sh.length (fun _ => 0), zrJ J sh.length (fun _ => 0)))))) := (zS_eq zG 1 43 0 _ _ _).trans rfl
def zrr (o : Nat) : Nat → Option Nat := zup (zup (zup zno 2 (some (o + 3))) 0 (some (o + 1))) 1 (some (o + 2))
theorem p_rinit {A : List zE} {I : zTI} {J : zTJ} {n m : Nat} : zS zG 1 43 0 [some (.ref A.length), some (.ref (A.length + 1)), some (.ref (A.length + 2))] [] (A ++ [(7, 0, zno), (13, n, zno), (13, m, zno)], I, J) = some (none, (A ++ [(7, 0, zrr A.length), (13, n, zno), (13, m, zno), (14, 64, zno)], zrI I (A.length + 3) (fun _ => 0), zrJ J (A.length + 3) (fun _ => 0))) := by
  have hl : (A ++ [((7 : Nat), (0 : Nat), zno), (13, n, zno), (13, m, zno)]).length = A.length + 3 := by rw [List.length_append]; rfl
  have ha : A ++ [((7 : Nat), (0 : Nat), zno), (13, n, zno), (13, m, zno)] ++ [((14 : Nat), (64 : Nat), zno)] = A ++ ((7 : Nat), (0 : Nat), zno) :: [(13, n, zno), (13, m, zno), (14, 64, zno)] := by rw [List.append_assoc]; rfl
  rw [t_rinit, hl, ha, zob_s zat_app, zsR_at, zob_s zat_app, zsR_at, zob_s zat_app, zsR_at]
  rfl
section zmd
variable (K : zKt) (σ : zSg) (I : zTI) (J : zTJ)
theorem zmd1 : zxk zG (zS zG) 6 (zG 51) K 6 0 [some (.ref 11)] [] (zSC σ, I, J) = K 12 [some (.ref 11)] [.int ((zrI I (zSC σ).length (fun _ => 0)) 11 6), .ref 13, .ref (zSC σ).length, .ref (zSC σ).length] (znew (zSC σ, I, J) 7 0) := rfl
theorem zmd2 (x : Int32) (a o : Nat) (h : zH) : zxk zG (zS zG) 6 (zG 51) K 1 12 [some (.ref 11)] [.int x, .ref a, .ref o, .ref o] h = zcA (zS zG 5 299 0 [some (.ref a), some (.int x), none] [] h) (fun r h' => K 15 [some (.ref 11)] [.ref r, .ref o, .ref o] h') := rfl
theorem zmd3 (r o : Nat) : zxk zG (zS zG) 6 (zG 51) K 6 15 [some (.ref 11)] [.ref r, .ref o, .ref o] (zSC σ, I, J) = K 25 [some (.ref 11)] [.int (I 11 8 * 5), .ref 14, .ref r, .ref o, .ref o] (zSC σ, I, J) := rfl
theorem zmd4 (x : Int32) (a r o : Nat) (h : zH) : zxk zG (zS zG) 6 (zG 51) K 1 25 [some (.ref 11)] [.int x, .ref a, .ref r, .ref o, .ref o] h = zcA (zS zG 5 299 0 [some (.ref a), some (.int x), none] [] h) (fun r2 h' => K 28 [some (.ref 11)] [.ref r2, .ref r, .ref o, .ref o] h') := rfl
theorem zmd5 (r r2 o : Nat) (sh : List zE) : zxk zG (zS zG) 6 (zG 51) K 1 28 [some (.ref 11)] [.ref r2, .ref r, .ref o, .ref o] (sh, I, J) = zob (sh, I, J) o [7] (fun _ => zcV (zS zG 1 43 0 [some (.ref o), some (.ref r), some (.ref r2)] [] (sh, I, J)) (fun h' => K 31 [some (.ref 11)] [.ref o] h')) := rfl
theorem zmd6 (o : Nat) (h : zH) : zxk zG (zS zG) 6 (zG 51) K 1 31 [some (.ref 11)] [.ref o] h = some (some (.ref o), h) := rfl
end zmd
/-- what is made -/
theorem p_made (σ : zSg) (I : zTI) (J : zTJ) {n nc : Nat} (e6 : I 11 6 = nI n) (e8 : I 11 8 = nI nc) (hn : n ≤ 400) (hc : nc ≤ 12) : ∃ I1 J1, zS zG 6 51 0 [some (.ref 11)] [] (zSC σ, I, J) = some (some (.ref (zSC σ).length), (zSC σ ++ [(7, 0, zrr (zSC σ).length), (13, n, zno), (13, 5 * nc, zno), (14, 64, zno)], I1, J1)) ∧ (∀ i, i < (zSC σ).length → I1 i = I i) ∧ (∀ j, j < n → I1 ((zSC σ).length + 1) j = I 13 j) ∧ (∀ j, j < 5 * nc → I1 ((zSC σ).length + 2) j = I 14 j) := by
  have hl := zSC_len σ
  have g6 : (zrI I (zSC σ).length (fun _ => 0)) 11 6 = nI n := by rw [zrI_ne _ _ (by omega)]; exact e6
  rw [zS_eq]
  show ∃ I1 J1, zx zG (zS zG) 6 51 (zG 51) 400 0 [some (.ref 11)] [] (zSC σ, I, J) = _ ∧ _
  rw [zx_N 400 6 394 rfl rfl, zmd1, g6, zx_N 394 1 393 rfl rfl, zmd2]
  have la : (zSC σ ++ [((7 : Nat), (0 : Nat), zno)]).length = (zSC σ).length + 1 := by rw [List.length_append]; rfl
  obtain ⟨f, J2, c1, c2⟩ := p_copyOf (sh := zSC σ ++ [((7 : Nat), (0 : Nat), zno)]) (I := zrI I (zSC σ).length (fun _ => 0)) (J := zrJ J (zSC σ).length (fun _ => 0)) (a := 13) (N := 400) (m := n) (rf := zno) rfl hn (by omega)
  rw [show zS zG 5 299 0 [some (.ref 13), some (.int (nI n)), none] [] (znew (zSC σ, I, J) 7 0) = _ from c1, zcA_s, la, List.append_assoc, zSC_app, zx_N 393 6 387 rfl rfl, zmd3, zx_N 387 1 386 rfl rfl, zmd4]
  have g8 : (zrI (zrI I (zSC σ).length (fun _ => 0)) ((zSC σ).length + 1) f) 11 8 * 5 = nI (5 * nc) := by
    rw [zrI_ne _ _ (by omega), zrI_ne _ _ (by omega), e8, Nat.mul_comm]
    exact (Int32.ofNat_mul nc 5).symm
  rw [g8]
  obtain ⟨g, J3, d1, d2⟩ := p_copyOf (sh := zSC (σ.1, σ.2.1, σ.2.2.1, σ.2.2.2.1, σ.2.2.2.2 ++ ([((7 : Nat), (0 : Nat), zno)] ++ [((13 : Nat), n, zno)]))) (I := zrI (zrI I (zSC σ).length (fun _ => 0)) ((zSC σ).length + 1) f) (J := J2) (a := 14) (N := 60) (m := 5 * nc) (rf := zno) rfl (by omega) (by omega)
  have lb : (zSC (σ.1, σ.2.1, σ.2.2.1, σ.2.2.2.1, σ.2.2.2.2 ++ ([((7 : Nat), (0 : Nat), zno)] ++ [((13 : Nat), n, zno)]))).length = (zSC σ).length + 2 := by
    rw [← zSC_app, List.length_append]
    rfl
  rw [d1, zcA_s, lb, ← zSC_app, List.append_assoc, show ([((7 : Nat), (0 : Nat), zno)] ++ [((13 : Nat), n, zno)]) ++ [((13 : Nat), 5 * nc, zno)] = [((7 : Nat), (0 : Nat), zno), (13, n, zno), (13, 5 * nc, zno)] from rfl, zx_N 386 1 385 rfl rfl, zmd5, zob_s zat_app, p_rinit, zcV_s, zx_N 385 1 384 rfl rfl, zmd6]
  refine ⟨_, _, rfl, fun i hi => ?_, fun j hj => ?_, fun j hj => ?_⟩
  · rw [zrI_ne _ _ (by omega), zrI_ne _ _ (by omega), zrI_ne _ _ (by omega), zrI_ne _ _ (by omega)]
  · rw [zrI_ne _ _ (by omega), zrI_ne _ _ (by omega), zrI_row, c2 j hj, zrI_ne _ _ (by omega)]
  · rw [zrI_ne _ _ (by omega), zrI_row, d2 j hj, zrI_ne _ _ (by omega), zrI_ne _ _ (by omega)]
