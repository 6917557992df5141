/-! ===== both scanners: a number ===== -/
def zva (B : Nat → Nat) (p : Nat) : Nat → Nat
  | 0 => 0
  | d + 1 => 10 * zva B p d + (B (p + d) - 48)
theorem zva_le {B : Nat → Nat} {p : Nat} : ∀ d, (∀ i, i < d → B (p + i) ≤ 57) → zva B p d < 10 ^ d
  | 0, _ => by show 0 < 1; omega
  | d + 1, h => by
    have h1 := zva_le d (fun i hi => h i (by omega))
    have h2 := h d (by omega)
    show 10 * zva B p d + (B (p + d) - 48) < 10 ^ (d + 1)
    rw [Nat.pow_succ]
    omega
/-- what a number is, and where it ends -/
def znu (B : Nat → Nat) (t p : Nat) : Nat := zva B p (min (zru (zdi B) t p - p) 5)
theorem znu_lt {B : Nat → Nat} {t p : Nat} : znu B t p < 100000 := by
  unfold znu
  have h := zva_le (B := B) (p := p) (min (zru (zdi B) t p - p) 5) (fun i hi => by
    have h1 := zru_all p (p + i) (by omega) (show p + i < zru (zdi B) t p by omega)
    have := of_decide_eq_true h1
    omega)
  have h2 : 10 ^ min (zru (zdi B) t p - p) 5 ≤ 10 ^ 5 := Nat.pow_le_pow_right (by omega) (by omega)
  omega
/-- the class has read the digits -/
def zend (w : Nat) (σ : zSg) (lo hi : Int32) (p d e' : Nat) (I : zTI) (J : zTJ) : Option zR := if d = 0 then some (some (.int 0), (zSC σ, zsI I w 4 (1 + 8 * nI p + 0), J)) else if 5 < d ∨ I w 3 < lo ∨ hi < I w 3 then some (some (.int 0), (zSC σ, zsI I w 4 (1 + 8 * nI p + 1), J)) else some (some (.int 1), (zSC σ, zsI I w 2 (nI e'), J))
theorem zsI_cm (I : zTI) (a : Nat) {k k' : Nat} (v v' : Int32) (h : k ≠ k') : zsI (zsI I a k v) a k' v' = zsI (zsI I a k' v') a k v := by
  rw [zsI_zrI I a k, zsI_zrI (zrI _ _ _) a k', zrI_zrI, zrI_row, zsI_zrI I a k', zsI_zrI (zrI _ _ _) a k, zrI_zrI, zrI_row, u_cm _ _ _ h]
set_option maxHeartbeats 4000000 in
theorem p_numC {w c : Nat} (hw : zsn w c) {σ : zSg} {J : zTJ} {t p : Nat} {B : Nat → Nat} {C M : Nat → Int32} {lo hi : Int32} (T : zTxt t B C M) (hp : p ≤ t) : ∀ q (I : zTI), p ≤ q → q ≤ t → (∀ i, p ≤ i → i < q → zdi B i = true) → I w 2 = nI q → I w 1 = nI t → I w 3 = nI (zva B p (min (q - p) 5)) → I c = C → qn_readNumber_13 w lo hi (nI p) (nI (q - p)) σ I J = zend w σ lo hi p (zru (zdi B) t q - p) (zru (zbl B) t (zru (zdi B) t q)) (zsI (zsI I w 3 (nI (zva B p (min (zru (zdi B) t q - p) 5)))) w 2 (nI (zru (zdi B) t q))) J := by
  have hcw : c ≠ w := by rcases hw with ⟨rfl, rfl⟩ | ⟨rfl, rfl⟩ <;> decide
  have ht := T.1
  refine zru_ind (P := zdi B) (t := t) (fun q h I hq hqt hall e2 e1 e3 eC => ?_) (fun q h hP ih I hq hqt hall e2 e1 e3 eC => ?_)
  · have fin : (if nI (q - p) = 0 then (zkI (qn_wrong w (nI p) 0 σ I J) (zSC σ) (fun r6 I4 J5 => (zif (zbo r6) (some (some (.int r6), ((zSC σ), I4, J5)))))) else (if (5 : Int32) < nI (q - p) then (zkI (qn_wrong w (nI p) 1 σ I J) (zSC σ) (fun r9 I7 J8 => (zif (zbo r9) (some (some (.int r9), ((zSC σ), I7, J8)))))) else (if (I w 3) < lo then (zkI (qn_wrong w (nI p) 1 σ I J) (zSC σ) (fun r12 I10 J11 => (zif (zbo r12) (some (some (.int r12), ((zSC σ), I10, J11)))))) else (if hi < (I w 3) then (zkI (qn_wrong w (nI p) 1 σ I J) (zSC σ) (fun r15 I13 J14 => (zif (zbo r15) (some (some (.int r15), ((zSC σ), I13, J14)))))) else (zkV (qn_skipBlanks w σ I J) (zSC σ) (fun I16 J17 => (some (some (.int 1), ((zSC σ), I16, J17))))))))) = zend w σ lo hi p (q - p) (zru (zbl B) t q) I J := by
      unfold zend
      rw [t_qn_wrong w _ _ c hw, t_qn_wrong w _ _ c hw, zkI_s, zkI_s, zif_t (show zbo 0 = true by decide), zif_t (show zbo 0 = true by decide), p_skip hw T q I e2 e1 eC hqt, zkV_s]
      by_cases d0 : q - p = 0
      · rw [if_pos d0, if_pos (by rw [d0]; rfl)]
      · rw [if_neg d0, if_neg (show ¬ nI (q - p) = (0 : Int32) from fun e => d0 (znI (b := 0) (by omega) (by omega) e))]
        by_cases d5 : 5 < q - p
        · rw [if_pos (show (5 : Int32) < nI (q - p) from nI_lt (a := 5) d5 (by omega)), if_pos (Or.inl d5)]
        · rw [if_neg (show ¬ (5 : Int32) < nI (q - p) from fun h => d5 ((nI_ltI (a := 5) (by omega) (by omega)).mp h))]
          by_cases l1 : I w 3 < lo
          · rw [if_pos l1, if_pos (Or.inr (Or.inl l1))]
          · rw [if_neg l1]
            by_cases l2 : hi < I w 3
            · rw [if_pos l2, if_pos (Or.inr (Or.inr l2))]
            · rw [if_neg l2, if_neg (show ¬ (5 < q - p ∨ I w 3 < lo ∨ hi < I w 3) from fun h => by rcases h with h | h | h; exact d5 h; exact l1 h; exact l2 h)]
    have eI : zsI (zsI I w 3 (nI (zva B p (min (q - p) 5)))) w 2 (nI q) = I := by
      rw [← e3, zsI_id, ← e2, zsI_id]
    rw [zru_n h, eI, t_qn_readNumber_13 w _ _ _ _ c hw, e1, e2, p_atDig hw (M := M) (by rw [eC]; exact T) e1 e2 (by omega), zkI_s, if_neg (show ¬ zhr (zdi B) t q from h), if_pos rfl, fin]
    split <;> rfl
  · have g := of_decide_eq_true hP
    have hall' : ∀ i, p ≤ i → i < q + 1 → zdi B i = true := fun i h1 h2 => by
      by_cases e : i = q
      · subst e; exact hP
      · exact hall i h1 (by omega)
    rw [t_qn_readNumber_13 w _ _ _ _ c hw, e1, e2, if_pos (nI_lt h (by omega)), p_atDig hw (M := M) (by rw [eC]; exact T) e1 e2 (by omega), zkI_s, if_pos (show zhr (zdi B) t q from ⟨h, hP⟩), if_neg z10, e2, nI_1, nI_1, show q - p + 1 = q + 1 - p by omega]
    by_cases d5 : q - p < 5
    · have hv := zva_le (B := B) (p := p) (q - p) (fun i hi => by
        have := of_decide_eq_true (hall (p + i) (by omega) (by omega))
        omega)
      have hpw : 10 ^ (q - p) ≤ 10 ^ 5 := Nat.pow_le_pow_right (by omega) (by omega)
      have em : min (q - p) 5 = q - p := by omega
      have em1 : min (q + 1 - p) 5 = q - p + 1 := by omega
      have ev : nI (zva B p (q - p)) * 10 + C q - 48 = nI (zva B p (q - p + 1)) := by
        rw [(T.2 q h).2.1, show (10 : Int32) = nI 10 from rfl, zI_muln (by omega) (by omega) (by omega), show nI (zva B p (q - p) * 10) + nI (B q) = nI (zva B p (q - p) * 10 + B q) from nI_add _ _, show (48 : Int32) = nI 48 from rfl, zI_subn (by omega) (by omega)]
        show _ = nI (10 * zva B p (q - p) + (B (p + (q - p)) - 48))
        rw [show p + (q - p) = q by omega]
        congr 1
        omega
      rw [if_pos (show nI (q - p) < (5 : Int32) from nI_lt (b := 5) d5 (by omega)), zif_n (by omega) (by omega), ztnn (by omega), eC, e3, em, ev, ih _ (by omega) (by omega) hall' (zsI_at _ _ _ _) (by rw [zsI_no _ _ _ (by decide), zsI_no _ _ _ (by decide)]; exact e1) (by rw [zsI_no _ _ _ (by decide), zsI_at, em1]) (by rw [zsI_ne _ _ _ hcw, zsI_ne _ _ _ hcw]; exact eC), zru_y h hP]
      rw [zsI_cm (zsI I w 3 _) w (k := 2) (k' := 3) _ _ (by decide), zsI_sI I, zsI_sI]
    · rw [if_neg (show ¬ nI (q - p) < (5 : Int32) from fun h' => d5 ((nI_ltI (b := 5) (by omega) (by omega)).mp h')), ih _ (by omega) (by omega) hall' (zsI_at _ _ _ _) (by rw [zsI_no _ _ _ (by decide)]; exact e1) (by rw [zsI_no _ _ _ (by decide), e3, show min (q - p) 5 = 5 by omega, show min (q + 1 - p) 5 = 5 by omega]) (by rw [zsI_ne _ _ _ hcw]; exact eC), zru_y h hP]
      rw [zsI_cm I w (k := 2) (k' := 3) _ _ (by decide), zsI_sI]
