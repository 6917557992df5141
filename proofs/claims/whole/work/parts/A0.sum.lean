/-! ===== a rule: a sum ===== -/
theorem zM_eq {t q : Nat} {B : Nat → Nat} {C M : Nat → Int32} (T : zTxt t B C M) (hq : q < t) (h : B q < 128) : M q = nI (B q) := by
  apply Int32.toInt_inj.mp
  rw [(T.2 q hq).2.2, nI_toInt (by omega), if_pos h]
/-- the class behind a value -/
noncomputable def zCs (x1 x3 : Int32) (σ : zSg) (I : zTI) (J : zTJ) : Option zR := (zkI (qn_sign 11 σ I J) (zSC σ) (fun r37 I35 J36 => (if r37 = 42 then (if r37 = 43 then (zkV (qn_takeSign 11 σ I35 J36) (zSC σ) (fun I38 J39 => (if r37 = 42 then (qu_readSum_6 x1 200002 (x3 + 1) σ I38 J39) else (qu_readSum_6 x1 200003 (x3 + 1) σ I38 J39)))) else (if r37 = 45 then (zkV (qn_takeSign 11 σ I35 J36) (zSC σ) (fun I40 J41 => (if r37 = 42 then (qu_readSum_6 x1 200002 (x3 + 1) σ I40 J41) else (qu_readSum_6 x1 200003 (x3 + 1) σ I40 J41)))) else (zkV (qn_takeSign 11 σ I35 J36) (zSC σ) (fun I42 J43 => (if r37 = 42 then (qu_readSum_6 x1 200002 (x3 + 1) σ I42 J43) else (qu_readSum_6 x1 200003 (x3 + 1) σ I42 J43)))))) else (if r37 = 47 then (if r37 = 43 then (zkV (qn_takeSign 11 σ I35 J36) (zSC σ) (fun I44 J45 => (if r37 = 42 then (qu_readSum_6 x1 200002 (x3 + 1) σ I44 J45) else (qu_readSum_6 x1 200003 (x3 + 1) σ I44 J45)))) else (if r37 = 45 then (zkV (qn_takeSign 11 σ I35 J36) (zSC σ) (fun I46 J47 => (if r37 = 42 then (qu_readSum_6 x1 200002 (x3 + 1) σ I46 J47) else (qu_readSum_6 x1 200003 (x3 + 1) σ I46 J47)))) else (zkV (qn_takeSign 11 σ I35 J36) (zSC σ) (fun I48 J49 => (if r37 = 42 then (qu_readSum_6 x1 200002 (x3 + 1) σ I48 J49) else (qu_readSum_6 x1 200003 (x3 + 1) σ I48 J49)))))) else (if r37 = 43 then (if x1 = (-1) then (zkV (qn_takeSign 11 σ I35 J36) (zSC σ) (fun I50 J51 => (if r37 = 43 then (qu_readSum_6 200000 (-1) (x3 + 1) σ I50 J51) else (qu_readSum_6 200001 (-1) (x3 + 1) σ I50 J51)))) else (zkV (qu_put x1 σ I35 J36) (zSC σ) (fun I52 J53 => (zkV (qn_takeSign 11 σ I52 J53) (zSC σ) (fun I54 J55 => (if r37 = 43 then (qu_readSum_6 200000 (-1) (x3 + 1) σ I54 J55) else (qu_readSum_6 200001 (-1) (x3 + 1) σ I54 J55))))))) else (if r37 = 45 then (if x1 = (-1) then (zkV (qn_takeSign 11 σ I35 J36) (zSC σ) (fun I56 J57 => (if r37 = 43 then (qu_readSum_6 200000 (-1) (x3 + 1) σ I56 J57) else (qu_readSum_6 200001 (-1) (x3 + 1) σ I56 J57)))) else (zkV (qu_put x1 σ I35 J36) (zSC σ) (fun I58 J59 => (zkV (qn_takeSign 11 σ I58 J59) (zSC σ) (fun I60 J61 => (if r37 = 43 then (qu_readSum_6 200000 (-1) (x3 + 1) σ I60 J61) else (qu_readSum_6 200001 (-1) (x3 + 1) σ I60 J61))))))) else (if x1 = (-1) then (some (some (.int 1), ((zSC σ), I35, J36))) else (zkV (qu_put x1 σ I35 J36) (zSC σ) (fun I62 J63 => (some (some (.int 1), ((zSC σ), I62, J63))))))))))))
theorem t_sum6 (x1 : Int32) (x2 : Int32) (x3 : Int32) (σ : zSg) (I : zTI) (J : zTJ) : qu_readSum_6 x1 x2 x3 σ I J = (if (60 : Int32) < x3 then (some (some (.int 0), ((zSC σ), I, J))) else (zkI (qu_readValue σ I J) (zSC σ) (fun r3 I1 J2 => (if r3 = 0 then (some (some (.int 0), ((zSC σ), I1, J2))) else (if x2 = (-1) then zCs x1 x3 σ I1 J2 else (zkV (qu_put x2 σ I1 J2) (zSC σ) (fun I33 J34 => zCs x1 x3 σ I33 J34))))))) := t_qu_readSum_6 x1 x2 x3 σ I J
theorem zby_i {B : Nat → Nat} {t q s : Nat} (hB : q < t → B q < 256) (hs : s < 256) {x : Int32} (hx : x = nI s) {α : Type} (a b : α) : (if zby B t q = x then a else b) = if q < t ∧ B q = s then a else b := by
  subst hx
  by_cases h : q < t ∧ B q = s
  · rw [if_pos h, if_pos ((zby_eq hB hs).1.mpr h)]
  · rw [if_neg h, if_neg (fun e => h ((zby_eq hB hs).1.mp e))]
section zsum
variable {σ : zSg} {I I' : zTI} {J J' : zTJ} {t q p : Nat} {B : Nat → Nat} {M : Nat → Int32} {C : Nat → Int32} {x1 x3 : Int32}
theorem p_csS (T : zTxt t B (I 12) M) (e1 : I 11 1 = nI t) (e2 : I 11 2 = nI q) (hq : q < t) (hb : B q = 42 ∨ B q = 47) : zCs x1 x3 σ I J = qu_readSum_6 x1 (if B q = 42 then 200002 else 200003) (x3 + 1) σ (zsI I 11 2 (nI (zru (zbl B) t (q + 1)))) J := by
  have hB : q < t → B q < 256 := fun h => (T.2 q h).1
  have y : ∀ s x : Nat, B q = s → s ≠ x → x < 256 → ¬ zby B t q = nI x := fun s x h h' hx e => h' (h.symm.trans ((zby_eq hB hx).1.mp e).2)
  unfold zCs
  rw [p_sign s11 T e1 e2 (by omega), zkI_s]
  rcases hb with hb | hb
  · have h1 : zby B t q = 42 := (zby_eq hB (s := 42) (by omega)).1.mpr ⟨hq, hb⟩
    rw [if_pos h1, if_neg (show ¬ zby B t q = 43 from y 42 43 hb (by omega) (by omega)), if_neg (show ¬ zby B t q = 45 from y 42 45 hb (by omega) (by omega)), p_takeS s11 T e1 e2 hq, zkV_s, if_pos h1, if_pos hb]
  · have h1 : zby B t q = 47 := (zby_eq hB (s := 47) (by omega)).1.mpr ⟨hq, hb⟩
    have h2 : ¬ zby B t q = 42 := y 47 42 hb (by omega) (by omega)
    rw [if_neg h2, if_pos h1, if_neg (show ¬ zby B t q = 43 from y 47 43 hb (by omega) (by omega)), if_neg (show ¬ zby B t q = 45 from y 47 45 hb (by omega) (by omega)), p_takeS s11 T e1 e2 hq, zkV_s, if_neg h2, if_neg (show ¬ B q = 42 by omega)]
theorem p_csA (T : zTxt t B (I 12) M) (e1 : I 11 1 = nI t) (e2 : I 11 2 = nI q) (hq : q < t) (hb : B q = 43 ∨ B q = 45) : zCs x1 x3 σ I J = (if x1 = -1 then (zkV (qn_takeSign 11 σ I J) (zSC σ) (fun I2 J2 => qu_readSum_6 (if B q = 43 then 200000 else 200001) (-1) (x3 + 1) σ I2 J2)) else (zkV (qu_put x1 σ I J) (zSC σ) (fun I1 J1 => (zkV (qn_takeSign 11 σ I1 J1) (zSC σ) (fun I2 J2 => qu_readSum_6 (if B q = 43 then 200000 else 200001) (-1) (x3 + 1) σ I2 J2))))) := by
  have hB : q < t → B q < 256 := fun h => (T.2 q h).1
  have y : ∀ s x : Nat, B q = s → s ≠ x → x < 256 → ¬ zby B t q = nI x := fun s x h h' hx e => h' (h.symm.trans ((zby_eq hB hx).1.mp e).2)
  unfold zCs
  rw [p_sign s11 T e1 e2 (by omega), zkI_s]
  rcases hb with hb | hb
  · have h1 : zby B t q = 43 := (zby_eq hB (s := 43) (by omega)).1.mpr ⟨hq, hb⟩
    rw [if_neg (show ¬ zby B t q = 42 from y 43 42 hb (by omega) (by omega)), if_neg (show ¬ zby B t q = 47 from y 43 47 hb (by omega) (by omega)), if_pos h1]
    simp only [if_pos h1, if_pos hb]
  · have h1 : zby B t q = 45 := (zby_eq hB (s := 45) (by omega)).1.mpr ⟨hq, hb⟩
    have h2 : ¬ zby B t q = 43 := y 45 43 hb (by omega) (by omega)
    rw [if_neg (show ¬ zby B t q = 42 from y 45 42 hb (by omega) (by omega)), if_neg (show ¬ zby B t q = 47 from y 45 47 hb (by omega) (by omega)), if_neg h2, if_pos h1]
    simp only [if_neg h2, if_neg (show ¬ B q = 43 by omega)]
theorem p_csE (T : zTxt t B (I 12) M) (e1 : I 11 1 = nI t) (e2 : I 11 2 = nI q) (hq : q ≤ t) (hb : ¬ (q < t ∧ (B q = 42 ∨ B q = 47 ∨ B q = 43 ∨ B q = 45))) : zCs x1 x3 σ I J = (if x1 = -1 then (some (some (.int 1), ((zSC σ), I, J))) else (zkV (qu_put x1 σ I J) (zSC σ) (fun I1 J1 => (some (some (.int 1), ((zSC σ), I1, J1)))))) := by
  have hB : q < t → B q < 256 := fun h => (T.2 q h).1
  unfold zCs
  rw [p_sign s11 T e1 e2 hq, zkI_s, if_neg (show ¬ zby B t q = 42 from fun e => by have := (zby_eq hB (s := 42) (by omega)).1.mp e; omega), if_neg (show ¬ zby B t q = 47 from fun e => by have := (zby_eq hB (s := 47) (by omega)).1.mp e; omega), if_neg (show ¬ zby B t q = 43 from fun e => by have := (zby_eq hB (s := 43) (by omega)).1.mp e; omega), if_neg (show ¬ zby B t q = 45 from fun e => by have := (zby_eq hB (s := 45) (by omega)).1.mp e; omega)]
/-- the reference behind a value, behind a term -/
noncomputable def zPm (o : Option Nat) (I : zTI) (J : zTJ) (k : zTI → zTJ → Option zR) : Option zR := match o with
  | none => k I J
  | some y => zkV (qm_puts (nI (zjs y)) 0 I J) zSM k
noncomputable def zqPc (o : Option Nat) (σ : zSg) (I : zTI) (J : zTJ) (k : zTI → zTJ → Option zR) : Option zR := if zkE o = -1 then k I J else zkV (qu_put (zkE o) σ I J) (zSC σ) k
noncomputable def zqTm (s : Option Nat) (x : Option zR) : Option zR := zkI x zSM (fun r I J => if r = 0 then some (some (.int 0), (zSM, I, J)) else zPm s I J (fun I1 J1 => qm_term_9 I1 J1))
noncomputable def zSm (a : Option Nat) (x : Option zR) : Option zR := zkI x zSM (fun r I J => if r = 0 then some (some (.int 0), (zSM, I, J)) else zPm a I J (fun I1 J1 => qm_sum_9 I1 J1))
theorem zjs_0 : nI (zjs 200000) = 2 := rfl
theorem zjs_1 : nI (zjs 200001) = 3 := rfl
theorem zjs_2 : nI (zjs 200002) = 4 := rfl
theorem zjs_3 : nI (zjs 200003) = 5 := rfl
theorem zTm_e {y : Nat} {x : Option zR} : zqTm (some y) x = zkI x zSM (fun r I J => if r = 0 then some (some (.int 0), (zSM, I, J)) else zkV (qm_puts (nI (zjs y)) 0 I J) zSM (fun I1 J1 => qm_term_9 I1 J1)) := rfl
theorem zSm_e {y : Nat} {x : Option zR} : zSm (some y) x = zkI x zSM (fun r I J => if r = 0 then some (some (.int 0), (zSM, I, J)) else zkV (qm_puts (nI (zjs y)) 0 I J) zSM (fun I1 J1 => qm_sum_9 I1 J1)) := rfl
theorem zTm_o {x : Option zR} : zqTm none x = zkI x zSM (fun r I J => if r = 0 then some (some (.int 0), (zSM, I, J)) else qm_term_9 I J) := rfl
theorem zsm_t (I' : zTI) (J' : zTJ) : qm_sum I' J' = zSm none (zqTm none (qm_value I' J')) := by
  rw [t_qm_sum, t_qm_term]
  rfl
theorem p_t9S (T : zTxt t B C (I' 1)) (e1 : I' 0 1 = nI t) (e9 : I' 0 9 = nI p) (hp : p ≤ t) (hz : zru (zbl B) t p = q) (hq : q < t) (hb : B q = 42 ∨ B q = 47) : qm_term_9 I' J' = zqTm (some (if B q = 42 then 200002 else 200003)) (qm_value (zsI I' 0 9 (nI (q + 1))) J') := by
  have ht := T.1
  have hB : q < t → B q < 256 := fun h => (T.2 q h).1
  have hM := zM_eq T hq (by omega)
  rw [t_qm_term_9, p_see T p I' e9 e1 rfl hp, zkI_s, hz, zsI_at, zsI_ne _ _ _ (show 1 ≠ 0 by decide), ztnn (by omega), hM, zif_n (by omega) (by omega), nI_1, zsI_sI]
  rcases hb with hb | hb
  · rw [if_pos (show zby B t q = 42 from (zby_eq hB (s := 42) (by omega)).1.mpr ⟨hq, hb⟩), if_pos (show nI (B q) = 42 by rw [hb]; rfl), if_pos hb, zTm_e, zjs_2]
  · rw [if_neg (show ¬ zby B t q = 42 from fun e => by have := (zby_eq hB (s := 42) (by omega)).1.mp e; omega), p_see (C := C) (M := I' 1) T q (zsI I' 0 9 (nI q)) (zsI_at _ _ _ _) (by rw [zsI_no _ _ _ (by decide)]; exact e1) (zsI_ne _ _ _ (by decide)) (by omega), zkI_s, show zru (zbl B) t q = q by rw [← hz, zru_id], zsI_sI, zsI_at, zsI_ne _ _ _ (show 1 ≠ 0 by decide), ztnn (by omega), hM, zif_n (by omega) (by omega), nI_1, zsI_sI, if_pos (show zby B t q = 47 from (zby_eq hB (s := 47) (by omega)).1.mpr ⟨hq, hb⟩), if_neg (show ¬ nI (B q) = 42 by rw [hb]; decide), if_neg (show ¬ B q = 42 by omega), zTm_e, zjs_3]
theorem p_t9E (T : zTxt t B C (I' 1)) (e1 : I' 0 1 = nI t) (e9 : I' 0 9 = nI p) (hp : p ≤ t) (hz : zru (zbl B) t p = q) (hb : ¬ (q < t ∧ (B q = 42 ∨ B q = 47))) : qm_term_9 I' J' = some (some (.int 1), (zSM, zsI I' 0 9 (nI q), J')) := by
  have hq := zru_le (P := zbl B) (t := t) p hp
  rw [hz] at hq
  have hB : q < t → B q < 256 := fun h => (T.2 q h).1
  rw [t_qm_term_9, p_see T p I' e9 e1 rfl hp, zkI_s, hz, if_neg (show ¬ zby B t q = 42 from fun e => by have := (zby_eq hB (s := 42) (by omega)).1.mp e; omega), p_see (C := C) (M := I' 1) T q (zsI I' 0 9 (nI q)) (zsI_at _ _ _ _) (by rw [zsI_no _ _ _ (by decide)]; exact e1) (zsI_ne _ _ _ (by decide)) (by omega), zkI_s, show zru (zbl B) t q = q by rw [← hz, zru_id], zsI_sI, if_neg (show ¬ zby B t q = 47 from fun e => by have := (zby_eq hB (s := 47) (by omega)).1.mp e; omega)]
theorem p_s9A (T : zTxt t B C (I' 1)) (e1 : I' 0 1 = nI t) (e9 : I' 0 9 = nI p) (hp : p ≤ t) (hz : zru (zbl B) t p = q) (hq : q < t) (hb : B q = 43 ∨ B q = 45) : qm_sum_9 I' J' = zSm (some (if B q = 43 then 200000 else 200001)) (zqTm none (qm_value (zsI I' 0 9 (nI (q + 1))) J')) := by
  have ht := T.1
  have hB : q < t → B q < 256 := fun h => (T.2 q h).1
  have hM := zM_eq T hq (by omega)
  rw [t_qm_sum_9, p_see T p I' e9 e1 rfl hp, zkI_s, hz, zsI_at, zsI_ne _ _ _ (show 1 ≠ 0 by decide), ztnn (by omega), hM, zif_n (by omega) (by omega), nI_1, zsI_sI]
  rcases hb with hb | hb
  · rw [if_pos (show zby B t q = 43 from (zby_eq hB (s := 43) (by omega)).1.mpr ⟨hq, hb⟩), if_pos (show nI (B q) = 43 by rw [hb]; rfl), if_pos hb, zSm_e, zjs_0, zTm_o, t_qm_term]
  · rw [if_neg (show ¬ zby B t q = 43 from fun e => by have := (zby_eq hB (s := 43) (by omega)).1.mp e; omega), p_see (C := C) (M := I' 1) T q (zsI I' 0 9 (nI q)) (zsI_at _ _ _ _) (by rw [zsI_no _ _ _ (by decide)]; exact e1) (zsI_ne _ _ _ (by decide)) (by omega), zkI_s, show zru (zbl B) t q = q by rw [← hz, zru_id], zsI_sI, zsI_at, zsI_ne _ _ _ (show 1 ≠ 0 by decide), ztnn (by omega), hM, zif_n (by omega) (by omega), nI_1, zsI_sI, if_pos (show zby B t q = 45 from (zby_eq hB (s := 45) (by omega)).1.mpr ⟨hq, hb⟩), if_neg (show ¬ nI (B q) = 43 by rw [hb]; decide), if_neg (show ¬ B q = 43 by omega), zSm_e, zjs_1, zTm_o, t_qm_term]
theorem p_s9E (T : zTxt t B C (I' 1)) (e1 : I' 0 1 = nI t) (e9 : I' 0 9 = nI p) (hp : p ≤ t) (hz : zru (zbl B) t p = q) (hb : ¬ (q < t ∧ (B q = 43 ∨ B q = 45))) : qm_sum_9 I' J' = some (some (.int 1), (zSM, zsI I' 0 9 (nI q), J')) := by
  have hq := zru_le (P := zbl B) (t := t) p hp
  rw [hz] at hq
  have hB : q < t → B q < 256 := fun h => (T.2 q h).1
  rw [t_qm_sum_9, p_see T p I' e9 e1 rfl hp, zkI_s, hz, if_neg (show ¬ zby B t q = 43 from fun e => by have := (zby_eq hB (s := 43) (by omega)).1.mp e; omega), p_see (C := C) (M := I' 1) T q (zsI I' 0 9 (nI q)) (zsI_at _ _ _ _) (by rw [zsI_no _ _ _ (by decide)]; exact e1) (zsI_ne _ _ _ (by decide)) (by omega), zkI_s, show zru (zbl B) t q = q by rw [← hz, zru_id], zsI_sI, if_neg (show ¬ zby B t q = 45 from fun e => by have := (zby_eq hB (s := 45) (by omega)).1.mp e; omega)]
end zsum
